import java.math.BigInteger;
import java.util.ArrayList;
import java.util.Comparator;
import java.util.List;

/**
 * The document's sentences once more, in the slowest and most literal way: paths are walked step by
 * step, approximations are searched through all denominators, sums are summed. It has the methods of
 * SternBrocotExplorer, and shares no code and few ideas with it.
 */
public final class ReferenceModel {
    private static final int BAD = -1;
    private static final int NONE = -2;
    private static final int TOO_LARGE = -3;
    private static final int NOT_POSITIVE = -4;
    private static final int FULL = -5;
    private static final int EMPTY_SLOT = -11;
    private static final int WRONG_KIND = -12;
    private static final int INDEX_OUT_OF_RANGE = -13;
    private static final int NEGATIVE_SIZE = -14;
    private static final int MILLION = 1000000;

    private record Pair(long top, long bottom) {
    }

    private record Plant(int kind, int p, int q) {
    }

    private record Walk(String path, Pair left, Pair end, Pair right) {
    }

    private Pair[] registers = new Pair[8];
    private Plant[] slots = new Plant[5];
    private Pair[] savedRegisters = null;
    private Plant[] savedSlots = null;
    private final int[][] arrays = new int[3][];
    private final List<Integer> terms = new ArrayList<>();
    private final StringBuilder text = new StringBuilder();

    public ReferenceModel() {
        java.util.Arrays.fill(registers, new Pair(1, 1));
    }

    private static boolean out(int value, int least, int greatest) {
        return value < least || value > greatest;
    }

    private static boolean noRegister(int... all) {
        for (int register : all) {
            if (out(register, 0, 7)) {
                return true;
            }
        }
        return false;
    }

    private int put(int target, BigInteger top, BigInteger bottom) {
        BigInteger divisor = top.gcd(bottom);
        BigInteger p = top.divide(divisor);
        BigInteger q = bottom.divide(divisor);
        BigInteger million = BigInteger.valueOf(MILLION);
        if (p.compareTo(million) > 0 || q.compareTo(million) > 0) {
            return TOO_LARGE;
        }
        registers[target] = new Pair(p.longValueExact(), q.longValueExact());
        return 1;
    }

    private int put(int target, long top, long bottom) {
        return put(target, BigInteger.valueOf(top), BigInteger.valueOf(bottom));
    }

    public int set(int register, int numerator, int denominator) {
        if (noRegister(register) || out(numerator, 1, MILLION) || out(denominator, 1, MILLION)) {
            return BAD;
        }
        return put(register, numerator, denominator);
    }

    public int numerator(int register) {
        return noRegister(register) ? BAD : (int) registers[register].top;
    }

    public int denominator(int register) {
        return noRegister(register) ? BAD : (int) registers[register].bottom;
    }

    private static int order(Pair a, Pair b) {
        return Long.compare(a.top * b.bottom, b.top * a.bottom);
    }

    public int compare(int first, int second) {
        return noRegister(first, second) ? BAD : order(registers[first], registers[second]) + 1;
    }

    public int combine(int target, int first, int second, int operation) {
        if (noRegister(target, first, second) || out(operation, 0, 4)) {
            return BAD;
        }
        BigInteger p = BigInteger.valueOf(registers[first].top);
        BigInteger q = BigInteger.valueOf(registers[first].bottom);
        BigInteger r = BigInteger.valueOf(registers[second].top);
        BigInteger s = BigInteger.valueOf(registers[second].bottom);
        if (operation == 0) {
            return put(target, p.multiply(s).add(r.multiply(q)), q.multiply(s));
        }
        if (operation == 1) {
            BigInteger difference = p.multiply(s).subtract(r.multiply(q));
            return difference.signum() <= 0 ? NOT_POSITIVE : put(target, difference, q.multiply(s));
        }
        if (operation == 2) {
            return put(target, p.multiply(r), q.multiply(s));
        }
        return operation == 3 ? put(target, p.multiply(s), q.multiply(r)) : put(target, p.add(r), q.add(s));
    }

    public long determinant(int first, int second) {
        if (noRegister(first, second)) {
            return Long.MIN_VALUE;
        }
        return registers[first].top * registers[second].bottom - registers[first].bottom * registers[second].top;
    }

    /** Walks from the root towards a fraction, and stops there or after so many steps. */
    private static Walk walk(Pair x, long steps) {
        Pair left = new Pair(0, 1);
        Pair right = new Pair(1, 0);
        StringBuilder path = new StringBuilder();
        for (;;) {
            Pair here = new Pair(left.top + right.top, left.bottom + right.bottom);
            int turn = order(x, here);
            if (turn == 0 || path.length() == steps) {
                return new Walk(path.toString(), left, here, right);
            }
            path.append(turn < 0 ? 'L' : 'R');
            left = turn < 0 ? left : here;
            right = turn < 0 ? here : right;
        }
    }

    private Walk walk(int register) {
        return walk(registers[register], Long.MAX_VALUE);
    }

    private static List<Integer> runs(String path) {
        List<Integer> lengths = new ArrayList<>();
        for (int i = 0; i < path.length(); i++) {
            if (i > 0 && path.charAt(i) == path.charAt(i - 1)) {
                lengths.set(lengths.size() - 1, lengths.get(lengths.size() - 1) + 1);
            } else {
                lengths.add(1);
            }
        }
        return lengths;
    }

    public int depth(int register) {
        return noRegister(register) ? BAD : walk(register).path.length();
    }

    public int pathStep(int register, int i) {
        if (noRegister(register) || i < 0) {
            return BAD;
        }
        String path = walk(register).path;
        return i >= path.length() ? NONE : path.charAt(i) == 'R' ? 1 : 0;
    }

    public int runCount(int register) {
        return noRegister(register) ? BAD : runs(walk(register).path).size();
    }

    public int run(int register, int i) {
        if (noRegister(register) || i < 0) {
            return BAD;
        }
        List<Integer> lengths = runs(walk(register).path);
        return i < lengths.size() ? lengths.get(i) : NONE;
    }

    public int ancestor(int target, int source, int depth) {
        if (noRegister(target, source) || depth < 0) {
            return BAD;
        }
        Walk way = walk(registers[source], depth);
        if (way.path.length() < depth) {
            return NONE;
        }
        return put(target, way.end.top, way.end.bottom);
    }

    public int bound(int target, int source, int side) {
        if (noRegister(target, source) || out(side, 0, 1)) {
            return BAD;
        }
        Walk way = walk(source);
        Pair bound = side == 0 ? way.left : way.right;
        return bound.top == 0 || bound.bottom == 0 ? NONE : put(target, bound.top, bound.bottom);
    }

    public int child(int target, int source, int side) {
        if (noRegister(target, source) || out(side, 0, 1)) {
            return BAD;
        }
        Walk way = walk(source);
        Pair bound = side == 0 ? way.left : way.right;
        return put(target, bound.top + way.end.top, bound.bottom + way.end.bottom);
    }

    public int commonAncestor(int target, int first, int second) {
        if (noRegister(target, first, second)) {
            return BAD;
        }
        String one = walk(first).path;
        String other = walk(second).path;
        int common = 0;
        while (common < one.length() && common < other.length() && one.charAt(common) == other.charAt(common)) {
            common++;
        }
        Walk way = walk(registers[first], common);
        put(target, way.end.top, way.end.bottom);
        return common;
    }

    private static List<Integer> termsOf(Pair x) {
        List<Integer> result = new ArrayList<>();
        long top = x.top;
        long bottom = x.bottom;
        while (bottom != 0) {
            result.add((int) Math.floorDiv(top, bottom));
            long rest = Math.floorMod(top, bottom);
            top = bottom;
            bottom = rest;
        }
        return result;
    }

    public int termCount(int register) {
        return noRegister(register) ? BAD : termsOf(registers[register]).size();
    }

    public int term(int register, int i) {
        if (noRegister(register) || i < 0) {
            return BAD;
        }
        List<Integer> all = termsOf(registers[register]);
        return i < all.size() ? all.get(i) : NONE;
    }

    /** The value of terms from the back, as numerator and denominator. */
    private static BigInteger[] value(List<Integer> all) {
        BigInteger top = BigInteger.valueOf(all.get(all.size() - 1));
        BigInteger bottom = BigInteger.ONE;
        for (int i = all.size() - 2; i >= 0; i--) {
            BigInteger next = BigInteger.valueOf(all.get(i)).multiply(top).add(bottom);
            bottom = top;
            top = next;
        }
        return new BigInteger[] {top, bottom};
    }

    public int convergent(int target, int source, int i) {
        if (noRegister(target, source) || i < 0) {
            return BAD;
        }
        List<Integer> all = termsOf(registers[source]);
        if (i >= all.size()) {
            return NONE;
        }
        BigInteger[] value = value(all.subList(0, i + 1));
        return value[0].signum() == 0 ? NONE : put(target, value[0], value[1]);
    }

    public int pushTerm(int term) {
        if (out(term, 0, MILLION)) {
            return BAD;
        }
        if (terms.size() == 20) {
            return FULL;
        }
        terms.add(term);
        return terms.size();
    }

    public int clearTerms() {
        int previous = terms.size();
        terms.clear();
        return previous;
    }

    public int fromTerms(int target) {
        if (noRegister(target)) {
            return BAD;
        }
        if (terms.isEmpty() || terms.lastIndexOf(0) > 0) {
            return NONE;
        }
        BigInteger[] value = value(terms);
        return value[0].signum() == 0 ? NONE : put(target, value[0], value[1]);
    }

    /** Every candidate is compared with the best one so far, by ascending denominator, the smaller one first. */
    public int best(int target, int source, int limit, int kind) {
        if (noRegister(target, source) || out(limit, 1, MILLION) || out(kind, 0, 2)) {
            return BAD;
        }
        long p = registers[source].top;
        long q = registers[source].bottom;
        long bestTop = -1;
        long bestBottom = 1;
        for (long d = 1; d <= limit; d++) {
            for (long n = p * d / q; n <= p * d / q + 1; n++) {
                boolean allowed = kind == 0 || (kind == 1 ? n * q <= p * d : n * q >= p * d);
                // Both distances times q and both denominators.
                long distance = Math.abs(p * d - n * q) * bestBottom;
                long bestDistance = Math.abs(p * bestBottom - bestTop * q) * d;
                if (allowed && (bestTop < 0 || distance < bestDistance)) {
                    bestTop = n;
                    bestBottom = d;
                }
            }
        }
        return bestTop == 0 ? NONE : put(target, bestTop, bestBottom);
    }

    public int simplestBetween(int target, int low, int high) {
        if (noRegister(target, low, high)) {
            return BAD;
        }
        Pair a = registers[low];
        Pair b = registers[high];
        if (order(a, b) >= 0) {
            return NONE;
        }
        for (long d = 1; ; d++) {
            long n = a.top * d / a.bottom + 1;
            if (order(new Pair(n, d), b) < 0) {
                return put(target, n, d);
            }
        }
    }

    private static int measure(Pair x, int measure) {
        switch (measure) {
            case 0:
                return (int) x.bottom;
            case 1:
                return (int) (x.top + x.bottom);
            case 2:
                return walk(x, Long.MAX_VALUE).path.length();
            case 3:
                return java.util.Collections.max(termsOf(x));
            default:
                return -termsOf(x).size();
        }
    }

    private static List<Pair> ranked(Pair low, Pair high, int measure) {
        List<Pair> all = new ArrayList<>();
        for (int d = 1; d <= 24; d++) {
            for (int n = 1; n < 4 * d; n++) {
                Pair x = new Pair(n, d);
                boolean lowest = BigInteger.valueOf(n).gcd(BigInteger.valueOf(d)).equals(BigInteger.ONE);
                if (lowest && order(low, x) < 0 && order(x, high) < 0) {
                    all.add(x);
                }
            }
        }
        all.sort(Comparator.comparingInt((Pair x) -> measure(x, measure))
                .thenComparingLong(Pair::bottom).thenComparingLong(Pair::top));
        return all;
    }

    public int rankedBetween(int target, int low, int high, int measure, int rank) {
        if (noRegister(target, low, high) || out(measure, 0, 4) || rank < 0) {
            return BAD;
        }
        List<Pair> all = ranked(registers[low], registers[high], measure);
        if (rank >= all.size()) {
            return NONE;
        }
        put(target, all.get(rank).top, all.get(rank).bottom);
        return all.size();
    }

    public int fareyNext(int target, int source, int order) {
        if (noRegister(target, source) || out(order, 1, 1000)) {
            return BAD;
        }
        Pair x = registers[source];
        Pair least = null;
        for (long d = 1; d <= order; d++) {
            Pair y = new Pair(x.top * d / x.bottom + 1, d);
            if (least == null || order(y, least) < 0) {
                least = y;
            }
        }
        return put(target, least.top, least.bottom);
    }

    public int fareyCount(int order) {
        if (out(order, 1, 1000)) {
            return BAD;
        }
        int all = 0;
        for (int d = 1; d <= order; d++) {
            for (int n = 1; n <= d; n++) {
                all += euclid(n, d) == 1 ? 1 : 0;
            }
        }
        return all;
    }

    private static int euclid(int a, int b) {
        return b == 0 ? a : euclid(b, a % b);
    }

    private static BigInteger index(long p, long q) {
        if (p == q) {
            return BigInteger.ONE;
        }
        return p < q ? index(p, q - p).shiftLeft(1) : index(p - q, q).shiftLeft(1).add(BigInteger.ONE);
    }

    public long calkinWilfIndex(int register) {
        if (noRegister(register)) {
            return Long.MIN_VALUE;
        }
        if (walk(register).path.length() > 60) {
            return TOO_LARGE;
        }
        return index(registers[register].top, registers[register].bottom).longValueExact();
    }

    private static Pair atIndex(long index) {
        if (index == 1) {
            return new Pair(1, 1);
        }
        Pair x = atIndex(index / 2);
        return index % 2 == 0 ? new Pair(x.top, x.bottom + x.top) : new Pair(x.top + x.bottom, x.bottom);
    }

    public int fromCalkinWilf(int target, long index) {
        if (noRegister(target) || index < 1) {
            return BAD;
        }
        Pair x = atIndex(index);
        return put(target, x.top, x.bottom);
    }

    public int calkinWilfNext(int target, int source) {
        if (noRegister(target, source)) {
            return BAD;
        }
        Pair x = registers[source];
        long floor = Math.floorDiv(x.top, x.bottom);
        // 2 * floor(x) - x + 1 over the denominator of x, and then turned over.
        return put(target, x.bottom, (2 * floor + 1) * x.bottom - x.top);
    }

    private static int letter(Pair x, long i) {
        BigInteger p = BigInteger.valueOf(x.top);
        BigInteger n = BigInteger.valueOf(x.top + x.bottom);
        BigInteger here = BigInteger.valueOf(i).multiply(p).mod(n);
        BigInteger next = BigInteger.valueOf(i + 1).multiply(p).mod(n);
        return next.compareTo(here) > 0 ? 0 : 1;
    }

    private static String word(Pair x) {
        StringBuilder letters = new StringBuilder();
        for (long i = 0; i < x.top + x.bottom; i++) {
            letters.append((char) ('0' + letter(x, i)));
        }
        return letters.toString();
    }

    public int wordLetter(int register, int i) {
        if (noRegister(register) || i < 0) {
            return BAD;
        }
        Pair x = registers[register];
        return i >= x.top + x.bottom ? NONE : letter(x, i);
    }

    public int factorLength(int register) {
        if (noRegister(register)) {
            return BAD;
        }
        long p = registers[register].top;
        long n = p + registers[register].bottom;
        int i = 1;
        while (i * p % n != 1) {
            i++;
        }
        return i;
    }

    public int recognizeWord(int target, int array) {
        if (noRegister(target) || out(array, 0, 2)) {
            return BAD;
        }
        if (arrays[array] == null) {
            return EMPTY_SLOT;
        }
        StringBuilder letters = new StringBuilder();
        for (int element : arrays[array]) {
            if (element != 0 && element != 1) {
                return 0;
            }
            letters.append(element);
        }
        String given = letters.toString();
        int ones = given.replace("0", "").length();
        int zeros = given.replace("1", "").length();
        if (ones == 0 || zeros == 0 || euclid(ones, zeros) != 1) {
            return 0;
        }
        String word = word(new Pair(ones, zeros));
        int found = 0;
        for (int i = 0; i < word.length(); i++) {
            if ((word.substring(i) + word.substring(0, i)).equals(given)) {
                found = 3;
            }
        }
        if (new StringBuilder(word).reverse().toString().equals(given)) {
            found = 2;
        }
        if (word.equals(given)) {
            found = 1;
        }
        if (found > 0) {
            put(target, ones, zeros);
        }
        return found;
    }

    public int dedekind(int register) {
        if (noRegister(register) || registers[register].bottom > 20000) {
            return Integer.MIN_VALUE;
        }
        long p = registers[register].top;
        long q = registers[register].bottom;
        long sum = 0;
        for (long i = 1; i < q; i++) {
            // f(x / q) is (2 * (x mod q) - q) / (2 * q), as none of these is an integer.
            sum += (2 * i - q) * (2 * (i * p % q) - q);
        }
        return (int) (3 * sum / q);
    }

    public int feed(int character) {
        if (out(character, 32, 126)) {
            return BAD;
        }
        if (text.length() == 60) {
            return FULL;
        }
        text.append((char) character);
        return text.length();
    }

    public int discardText() {
        int previous = text.length();
        text.setLength(0);
        return previous;
    }

    public int followPath(int target, int source) {
        if (noRegister(target, source)) {
            return BAD;
        }
        String path = text.toString();
        text.setLength(0);
        for (int end = 1; end <= path.length(); end++) {
            if (!path.substring(0, end).matches("([LR]([1-9][0-9]{0,5})?)*")) {
                return -100 - (end - 1);
            }
        }
        Pair x = registers[source];
        String[] steps = path.isEmpty() ? new String[0] : path.split("(?=[LR])");
        for (int i = steps.length - 1; i >= 0; i--) {
            int times = steps[i].length() == 1 ? 1 : Integer.parseInt(steps[i].substring(1));
            for (int j = 0; j < times; j++) {
                boolean right = steps[i].charAt(0) == 'R';
                x = right ? new Pair(x.top + x.bottom, x.bottom) : new Pair(x.top, x.top + x.bottom);
                if (x.top > MILLION || x.bottom > MILLION) {
                    return TOO_LARGE;
                }
            }
        }
        return put(target, x.top, x.bottom);
    }

    private String pathText(int register) {
        String path = walk(register).path;
        StringBuilder form = new StringBuilder();
        int start = 0;
        for (int length : runs(path)) {
            form.append(path.charAt(start)).append(length == 1 ? "" : String.valueOf(length));
            start += length;
        }
        return form.toString();
    }

    public int pathTextLength(int register) {
        return noRegister(register) ? BAD : pathText(register).length();
    }

    public int pathText(int register, int i) {
        if (noRegister(register) || i < 0) {
            return BAD;
        }
        String form = pathText(register);
        return i < form.length() ? form.charAt(i) : NONE;
    }

    public int plant(int slot, int kind, int register) {
        if (out(slot, 0, 4) || out(kind, -1, 4) || noRegister(register)) {
            return BAD;
        }
        int before = slots[slot] == null ? 0 : 1;
        Pair x = registers[register];
        slots[slot] = kind == -1 ? null : new Plant(kind, (int) x.top, (int) x.bottom);
        return before;
    }

    private static int grow(Plant node, int x) {
        switch (node.kind) {
            case 0:
                return x + node.p;
            case 1:
            case 2:
                return x * 2 + node.p;
            case 3:
                return (x * 2 + node.p) ^ 5;
            default:
                return -(x + node.p);
        }
    }

    private static int bend(Plant node, int x) {
        switch (node.kind) {
            case 2:
                return grow(node, x) * 3 - node.q + node.q;
            case 3:
                return grow(node, grow(node, x)) * 3 - node.q + node.q;
            default:
                return grow(node, x) * 3 - node.q;
        }
    }

    public int operate(int slot, int operation, int x) {
        if (out(slot, 0, 4) || out(operation, 0, 1) || slots[slot] == null) {
            return 0;
        }
        return operation == 0 ? grow(slots[slot], x) : bend(slots[slot], x);
    }

    public int castNode(int slot, int kind) {
        if (out(slot, 0, 4) || out(kind, 0, 4)) {
            return BAD;
        }
        if (slots[slot] == null) {
            return EMPTY_SLOT;
        }
        String[] ancestry = {"0", "01", "012", "0123", "04"};
        int own = slots[slot].kind;
        return ancestry[own].contains(String.valueOf(kind)) ? own : WRONG_KIND;
    }

    public int newArray(int array, int size) {
        if (out(array, 0, 2) || size > 60) {
            return BAD;
        }
        if (size < -1) {
            return NEGATIVE_SIZE;
        }
        arrays[array] = size == -1 ? null : new int[size];
        return 1;
    }

    public int setElement(int array, int index, int value) {
        if (out(array, 0, 2)) {
            return BAD;
        }
        if (arrays[array] == null) {
            return EMPTY_SLOT;
        }
        if (out(index, 0, arrays[array].length - 1)) {
            return INDEX_OUT_OF_RANGE;
        }
        arrays[array][index] = value;
        return 1;
    }

    public long element(int array, int index) {
        if (out(array, 0, 2) || arrays[array] == null || out(index, 0, arrays[array].length - 1)) {
            return Long.MIN_VALUE;
        }
        return arrays[array][index];
    }

    public int fillArray(int array, int register, int what) {
        if (out(array, 0, 2) || noRegister(register) || out(what, 0, 2)) {
            return BAD;
        }
        Pair x = registers[register];
        List<Integer> values = new ArrayList<>();
        if (what == 0) {
            values.addAll(termsOf(x));
        } else if (what == 2) {
            walk(register).path.chars().forEach(step -> values.add(step == 'R' ? 1 : 0));
        } else if (x.top + x.bottom > 60) {
            return TOO_LARGE;
        } else {
            word(x).chars().forEach(letter -> values.add(letter - '0'));
        }
        if (values.size() > 60) {
            return TOO_LARGE;
        }
        arrays[array] = values.stream().mapToInt(Integer::intValue).toArray();
        return values.size();
    }

    public int snapshot() {
        savedRegisters = registers.clone();
        savedSlots = slots.clone();
        return count(2);
    }

    public int restore() {
        if (savedRegisters == null) {
            return NONE;
        }
        registers = savedRegisters.clone();
        slots = savedSlots.clone();
        return count(2);
    }

    public int count(int what) {
        switch (what) {
            case 0:
                return terms.size();
            case 1:
                return text.length();
            case 2:
                return (int) java.util.Arrays.stream(slots).filter(node -> node != null).count();
            case 3:
                return (int) java.util.Arrays.stream(arrays).filter(array -> array != null).count();
            default:
                return BAD;
        }
    }
}
