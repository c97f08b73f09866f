/**
 * A calculator for positive fractions and the Stern-Brocot tree. What each method promises is told
 * in ../shared/DOC.md; README.md tells how to use it.
 *
 * <p>All rows are made with the object and used again, so that only planted nodes are new objects.
 */
public final class SternBrocotExplorer {
    public static final int BAD_ARGUMENT = -1;
    public static final int NONE = -2;
    public static final int TOO_LARGE = -3;
    public static final int NOT_POSITIVE = -4;
    public static final int FULL = -5;
    public static final int EMPTY_SLOT = -11;
    public static final int WRONG_KIND = -12;
    public static final int INDEX_OUT_OF_RANGE = -13;
    public static final int NEGATIVE_SIZE = -14;

    // Written out, because the language rules name no constants of Integer and Long.
    private static final int NO_INT = -2147483648;
    private static final long NO_LONG = -9223372036854775808L;

    private static final int DONE = 1;
    private static final int LARGEST = 1000000;
    private static final int REGISTERS = 8;
    private static final int SLOTS = 5;
    private static final int ARRAYS = 3;
    private static final int ARRAY_ROOM = 60;
    private static final int NULL_ARRAY = -1;
    private static final int LIST_ROOM = 20;
    private static final int TEXT_ROOM = 60;
    private static final int COUNT_DIGITS = 6;

    // Numbers up to 1000000 have at most 30 terms: the Fibonacci numbers grow past it there.
    private static final int TERM_ROOM = 64;
    // Sums of two products of registers are below 2 to the power 41, which Euclid ends in 60 steps.
    private static final int EUCLID_STEPS = 1000;

    private static final int LEFT = 0;
    private static final int RIGHT = 1;

    private static final int RANKED_DENOMINATOR = 24;
    private static final int RANKED_END = 4;
    private static final int LARGEST_ORDER = 1000;
    private static final int INDEXED_DEPTH = 60;
    private static final int INDEX_BITS = 63;
    private static final int DEDEKIND_DENOMINATOR = 20000;

    private static final int NODE = 0;
    private static final int BRANCH = 1;
    private static final int TWIG = 2;
    private static final int LEAF = 3;
    private static final int ROOT = 4;
    private static final int NO_NODE = -1;

    private final int[] tops = new int[REGISTERS];
    private final int[] bottoms = new int[REGISTERS];
    private final Node[] slots = new Node[SLOTS];
    private final int[] savedTops = new int[REGISTERS];
    private final int[] savedBottoms = new int[REGISTERS];
    private final Node[] savedSlots = new Node[SLOTS];
    private boolean hasSnapshot;
    private final int[] termList = new int[LIST_ROOM];
    private int termListSize;
    private final int[] text = new int[TEXT_ROOM];
    private int textSize;
    private final int[][] arrays = new int[ARRAYS][ARRAY_ROOM];
    private final int[] arraySizes = new int[ARRAYS];
    private final Expansion expansion = new Expansion();
    private final Expansion otherExpansion = new Expansion();
    private final Ranking ranking = new Ranking();

    public SternBrocotExplorer() {
        for (int register = 0; register < REGISTERS; register++) {
            tops[register] = 1;
            bottoms[register] = 1;
        }
        for (int array = 0; array < ARRAYS; array++) {
            arraySizes[array] = NULL_ARRAY;
        }
    }

    // Registers

    public int set(int register, int numerator, int denominator) {
        if (!isRegister(register) || !isIn(numerator, 1, LARGEST) || !isIn(denominator, 1, LARGEST)) {
            return BAD_ARGUMENT;
        }
        return store(register, numerator, denominator);
    }

    public int numerator(int register) {
        return isRegister(register) ? tops[register] : BAD_ARGUMENT;
    }

    public int denominator(int register) {
        return isRegister(register) ? bottoms[register] : BAD_ARGUMENT;
    }

    public int compare(int first, int second) {
        if (!isRegister(first) || !isRegister(second)) {
            return BAD_ARGUMENT;
        }
        long difference = crossDifference(first, second);
        if (difference < 0) {
            return 0;
        }
        return difference == 0 ? 1 : 2;
    }

    public int combine(int target, int first, int second, int operation) {
        if (!isRegister(target) || !isRegister(first) || !isRegister(second) || !isIn(operation, 0, 4)) {
            return BAD_ARGUMENT;
        }
        long top = tops[first];
        long bottom = bottoms[first];
        long otherTop = tops[second];
        long otherBottom = bottoms[second];
        switch (operation) {
            case 0:
                return store(target, top * otherBottom + otherTop * bottom, bottom * otherBottom);
            case 1:
                long difference = crossDifference(first, second);
                return difference > 0 ? store(target, difference, bottom * otherBottom) : NOT_POSITIVE;
            case 2:
                return store(target, top * otherTop, bottom * otherBottom);
            case 3:
                return store(target, top * otherBottom, bottom * otherTop);
            default:
                return store(target, top + otherTop, bottom + otherBottom);
        }
    }

    public long determinant(int first, int second) {
        return isRegister(first) && isRegister(second) ? crossDifference(first, second) : NO_LONG;
    }

    // The tree

    public int depth(int register) {
        return isRegister(register) ? expand(register).stepCount() : BAD_ARGUMENT;
    }

    public int pathStep(int register, int i) {
        if (!isRegister(register) || i < 0) {
            return BAD_ARGUMENT;
        }
        return expand(register).stepAt(i);
    }

    public int runCount(int register) {
        if (!isRegister(register)) {
            return BAD_ARGUMENT;
        }
        Expansion path = expand(register);
        int runs = 0;
        for (int i = 0; i < path.size(); i++) {
            if (path.runAt(i) > 0) {
                runs++;
            }
        }
        return runs;
    }

    public int run(int register, int i) {
        if (!isRegister(register) || i < 0) {
            return BAD_ARGUMENT;
        }
        Expansion path = expand(register);
        int before = 0;
        for (int j = 0; j < path.size(); j++) {
            if (path.runAt(j) > 0) {
                if (before == i) {
                    return path.runAt(j);
                }
                before++;
            }
        }
        return NONE;
    }

    public int ancestor(int target, int source, int depth) {
        if (!isRegister(target) || !isRegister(source) || depth < 0) {
            return BAD_ARGUMENT;
        }
        Expansion path = expand(source);
        if (depth > path.stepCount()) {
            return NONE;
        }
        path.cutToDepth(depth);
        return storeConvergent(target, path, path.size() - 1);
    }

    public int bound(int target, int source, int side) {
        if (!isRegister(target) || !isRegister(source) || !isIn(side, LEFT, RIGHT)) {
            return BAD_ARGUMENT;
        }
        Expansion path = expand(source);
        path.findBounds();
        if (path.boundTop(side) == 0 || path.boundBottom(side) == 0) {
            return NONE;
        }
        return store(target, path.boundTop(side), path.boundBottom(side));
    }

    public int child(int target, int source, int side) {
        if (!isRegister(target) || !isRegister(source) || !isIn(side, LEFT, RIGHT)) {
            return BAD_ARGUMENT;
        }
        Expansion path = expand(source);
        path.findBounds();
        return store(target, path.boundTop(side) + tops[source], path.boundBottom(side) + bottoms[source]);
    }

    public int commonAncestor(int target, int first, int second) {
        if (!isRegister(target) || !isRegister(first) || !isRegister(second)) {
            return BAD_ARGUMENT;
        }
        Expansion path = expand(first);
        otherExpansion.expand(tops[second], bottoms[second]);
        int common = path.commonSteps(otherExpansion);
        path.cutToDepth(common);
        storeConvergent(target, path, path.size() - 1);
        return common;
    }

    // Continued fractions

    public int termCount(int register) {
        return isRegister(register) ? expand(register).size() : BAD_ARGUMENT;
    }

    public int term(int register, int i) {
        if (!isRegister(register) || i < 0) {
            return BAD_ARGUMENT;
        }
        Expansion terms = expand(register);
        return i < terms.size() ? terms.at(i) : NONE;
    }

    public int convergent(int target, int source, int i) {
        if (!isRegister(target) || !isRegister(source) || i < 0) {
            return BAD_ARGUMENT;
        }
        Expansion terms = expand(source);
        if (i >= terms.size() || terms.convergentTop(i) == 0) {
            return NONE;
        }
        return storeConvergent(target, terms, i);
    }

    public int pushTerm(int term) {
        if (!isIn(term, 0, LARGEST)) {
            return BAD_ARGUMENT;
        }
        if (termListSize >= LIST_ROOM) {
            return FULL;
        }
        termList[termListSize] = term;
        termListSize++;
        return termListSize;
    }

    public int clearTerms() {
        int previous = termListSize;
        termListSize = 0;
        return previous;
    }

    public int fromTerms(int target) {
        if (!isRegister(target)) {
            return BAD_ARGUMENT;
        }
        if (!hasTermListValue()) {
            return NONE;
        }
        long top = termList[termListSize - 1];
        long bottom = 1;
        for (int i = termListSize - 2; i >= 0; i--) {
            long next = termList[i] * top + bottom;
            bottom = top;
            top = next;
            // No term before can make it smaller again.
            if (top > LARGEST || bottom > LARGEST) {
                return TOO_LARGE;
            }
        }
        return store(target, top, bottom);
    }

    // Approximations

    public int best(int target, int source, int limit, int kind) {
        if (!isRegister(target) || !isRegister(source) || !isIn(limit, 1, LARGEST) || !isIn(kind, 0, 2)) {
            return BAD_ARGUMENT;
        }
        if (bottoms[source] <= limit) {
            return store(target, tops[source], bottoms[source]);
        }
        Expansion terms = expand(source);
        terms.findNeighbours(limit);
        int side = kind == 0 ? nearerSide(source, terms) : kind - 1;
        if (terms.boundTop(side) == 0) {
            return NONE;
        }
        return store(target, terms.boundTop(side), terms.boundBottom(side));
    }

    public int simplestBetween(int target, int low, int high) {
        if (!isRegister(target) || !isRegister(low) || !isRegister(high)) {
            return BAD_ARGUMENT;
        }
        if (crossDifference(low, high) >= 0) {
            return NONE;
        }
        expansion.becomeSimplestBetween(tops[low], bottoms[low], tops[high], bottoms[high]);
        return storeConvergent(target, expansion, expansion.size() - 1);
    }

    public int rankedBetween(int target, int low, int high, int measure, int rank) {
        if (!isRegister(target) || !isRegister(low) || !isRegister(high) || !isIn(measure, 0, 4) || rank < 0) {
            return BAD_ARGUMENT;
        }
        collectRanked(low, high, measure);
        if (rank >= ranking.size()) {
            return NONE;
        }
        int place = ranking.placeOf(rank);
        store(target, ranking.topAt(place), ranking.bottomAt(place));
        return ranking.size();
    }

    public int fareyNext(int target, int source, int order) {
        if (!isRegister(target) || !isRegister(source) || !isIn(order, 1, LARGEST_ORDER)) {
            return BAD_ARGUMENT;
        }
        Expansion terms = expand(source);
        if (bottoms[source] > order) {
            terms.findNeighbours(order);
            return store(target, terms.boundTop(RIGHT), terms.boundBottom(RIGHT));
        }
        terms.findBounds();
        // The next one is the last mediant of the right bound and the source that the order allows.
        long times = quotient(order - terms.boundBottom(RIGHT), bottoms[source]);
        return store(target, terms.boundTop(RIGHT) + times * tops[source],
                terms.boundBottom(RIGHT) + times * bottoms[source]);
    }

    public int fareyCount(int order) {
        if (!isIn(order, 1, LARGEST_ORDER)) {
            return BAD_ARGUMENT;
        }
        int fractions = 0;
        for (int bottom = 1; bottom <= order; bottom++) {
            fractions += totient(bottom);
        }
        return fractions;
    }

    // Calkin-Wilf

    public long calkinWilfIndex(int register) {
        if (!isRegister(register)) {
            return NO_LONG;
        }
        int steps = expand(register).stepCount();
        if (steps > INDEXED_DEPTH) {
            return TOO_LARGE;
        }
        int top = tops[register];
        int bottom = bottoms[register];
        long index = 1L << steps;
        for (int bit = 0; bit < steps; bit++) {
            if (top > bottom) {
                index |= 1L << bit;
                top -= bottom;
            } else {
                bottom -= top;
            }
        }
        return index;
    }

    public int fromCalkinWilf(int target, long index) {
        if (!isRegister(target) || index < 1) {
            return BAD_ARGUMENT;
        }
        long top = 1;
        long bottom = 1;
        boolean started = false;
        for (int bit = INDEX_BITS - 1; bit >= 0; bit--) {
            boolean one = (index >> bit & 1) == 1;
            if (started && one) {
                top += bottom;
            } else if (started) {
                bottom += top;
            }
            started = started || one;
        }
        return store(target, top, bottom);
    }

    public int calkinWilfNext(int target, int source) {
        if (!isRegister(target) || !isRegister(source)) {
            return BAD_ARGUMENT;
        }
        long top = tops[source];
        long bottom = bottoms[source];
        long whole = quotient(top, bottom);
        return store(target, bottom, 2 * whole * bottom - top + bottom);
    }

    // Christoffel words

    public int wordLetter(int register, int i) {
        if (!isRegister(register) || i < 0) {
            return BAD_ARGUMENT;
        }
        return i < wordSize(register) ? letterOf(tops[register], bottoms[register], i) : NONE;
    }

    public int factorLength(int register) {
        if (!isRegister(register)) {
            return BAD_ARGUMENT;
        }
        Expansion path = expand(register);
        path.findBounds();
        // With a / b as the left bound of p / q, p * b - q * a is 1, and so (a + b) * p is 1 modulo p + q.
        return (int) (path.boundTop(LEFT) + path.boundBottom(LEFT));
    }

    public int recognizeWord(int target, int array) {
        if (!isRegister(target) || !isArray(array)) {
            return BAD_ARGUMENT;
        }
        if (arraySizes[array] == NULL_ARRAY) {
            return EMPTY_SLOT;
        }
        int ones = onesOfWord(array);
        int zeros = arraySizes[array] - ones;
        if (ones <= 0 || zeros <= 0 || gcd(ones, zeros) != 1) {
            return 0;
        }
        int found = classOfWord(array, ones, zeros);
        if (found > 0) {
            store(target, ones, zeros);
        }
        return found;
    }

    public int dedekind(int register) {
        if (!isRegister(register) || bottoms[register] > DEDEKIND_DENOMINATOR) {
            return NO_INT;
        }
        Expansion terms = expand(register);
        int last = terms.size() - 1;
        int bottom = bottoms[register];
        // The rule of Barkan, Hickerson and Knuth, which sums over the terms instead of all i below q.
        long sum = 0;
        for (int i = 1; i <= last; i++) {
            sum += i % 2 == 1 ? terms.at(i) : -terms.at(i);
        }
        long rest = tops[register] - (long) terms.at(0) * bottom;
        if (last % 2 == 1) {
            return (int) (bottom * (sum - 3) + rest + terms.convergentBottom(last - 1));
        }
        return (int) (bottom * sum + rest - terms.convergentBottom(last - 1));
    }

    // Texts

    public int feed(int character) {
        if (!isIn(character, 32, 126)) {
            return BAD_ARGUMENT;
        }
        if (textSize >= TEXT_ROOM) {
            return FULL;
        }
        text[textSize] = character;
        textSize++;
        return textSize;
    }

    public int discardText() {
        int previous = textSize;
        textSize = 0;
        return previous;
    }

    public int followPath(int target, int source) {
        if (!isRegister(target) || !isRegister(source)) {
            return BAD_ARGUMENT;
        }
        int wrong = firstWrongCharacter();
        int answer = wrong >= 0 ? -100 - wrong : applyText(target, source);
        textSize = 0;
        return answer;
    }

    public int pathTextLength(int register) {
        if (!isRegister(register)) {
            return BAD_ARGUMENT;
        }
        Expansion path = expand(register);
        int characters = 0;
        for (int i = 0; i < path.size(); i++) {
            characters += runTextSize(path.runAt(i));
        }
        return characters;
    }

    public int pathText(int register, int i) {
        if (!isRegister(register) || i < 0) {
            return BAD_ARGUMENT;
        }
        Expansion path = expand(register);
        int place = i;
        for (int j = 0; j < path.size(); j++) {
            int characters = runTextSize(path.runAt(j));
            if (place < characters) {
                return runCharacter(j, path.runAt(j), place);
            }
            place -= characters;
        }
        return NONE;
    }

    // Nodes

    public int plant(int slot, int kind, int register) {
        if (!isSlot(slot) || !isIn(kind, NO_NODE, ROOT) || !isRegister(register)) {
            return BAD_ARGUMENT;
        }
        int heldBefore = slots[slot] == null ? 0 : 1;
        slots[slot] = newNode(kind, tops[register], bottoms[register]);
        return heldBefore;
    }

    public int operate(int slot, int operation, int x) {
        if (!isSlot(slot) || !isIn(operation, 0, 1)) {
            return 0;
        }
        Node node = slots[slot];
        if (node == null) {
            return 0;
        }
        return operation == 0 ? node.grow(x) : node.bend(x);
    }

    public int castNode(int slot, int kind) {
        if (!isSlot(slot) || !isIn(kind, NODE, ROOT)) {
            return BAD_ARGUMENT;
        }
        Node node = slots[slot];
        if (node == null) {
            return EMPTY_SLOT;
        }
        return isOfKind(node, kind) ? node.kind() : WRONG_KIND;
    }

    // Arrays

    public int newArray(int array, int size) {
        if (!isArray(array) || size > ARRAY_ROOM) {
            return BAD_ARGUMENT;
        }
        if (size < NULL_ARRAY) {
            return NEGATIVE_SIZE;
        }
        for (int i = 0; i < ARRAY_ROOM; i++) {
            arrays[array][i] = 0;
        }
        arraySizes[array] = size;
        return DONE;
    }

    public int setElement(int array, int index, int value) {
        if (!isArray(array)) {
            return BAD_ARGUMENT;
        }
        if (arraySizes[array] == NULL_ARRAY) {
            return EMPTY_SLOT;
        }
        if (!isIndex(array, index)) {
            return INDEX_OUT_OF_RANGE;
        }
        arrays[array][index] = value;
        return DONE;
    }

    public long element(int array, int index) {
        return isArray(array) && isIndex(array, index) ? arrays[array][index] : NO_LONG;
    }

    public int fillArray(int array, int register, int what) {
        if (!isArray(array) || !isRegister(register) || !isIn(what, 0, 2)) {
            return BAD_ARGUMENT;
        }
        Expansion terms = expand(register);
        int size = what == 0 ? terms.size() : what == 1 ? wordSize(register) : terms.stepCount();
        if (size > ARRAY_ROOM) {
            return TOO_LARGE;
        }
        for (int i = 0; i < size; i++) {
            arrays[array][i] = valueOf(register, terms, what, i);
        }
        arraySizes[array] = size;
        return size;
    }

    // Snapshots and counters

    public int snapshot() {
        for (int register = 0; register < REGISTERS; register++) {
            savedTops[register] = tops[register];
            savedBottoms[register] = bottoms[register];
        }
        for (int slot = 0; slot < SLOTS; slot++) {
            // The same node may stand in both rows, because it never changes.
            savedSlots[slot] = slots[slot];
        }
        hasSnapshot = true;
        return nodeCount();
    }

    public int restore() {
        if (!hasSnapshot) {
            return NONE;
        }
        for (int register = 0; register < REGISTERS; register++) {
            tops[register] = savedTops[register];
            bottoms[register] = savedBottoms[register];
        }
        for (int slot = 0; slot < SLOTS; slot++) {
            slots[slot] = savedSlots[slot];
        }
        return nodeCount();
    }

    public int count(int what) {
        switch (what) {
            case 0:
                return termListSize;
            case 1:
                return textSize;
            case 2:
                return nodeCount();
            case 3:
                return arrayCount();
            default:
                return BAD_ARGUMENT;
        }
    }

    // Tests of arguments

    private static boolean isIn(int value, int least, int greatest) {
        return value >= least && value <= greatest;
    }

    private static boolean isRegister(int register) {
        return register >= 0 && register < REGISTERS;
    }

    private static boolean isSlot(int slot) {
        return slot >= 0 && slot < SLOTS;
    }

    private static boolean isArray(int array) {
        return array >= 0 && array < ARRAYS;
    }

    /** Answers false for every index of a null array, too. */
    private boolean isIndex(int array, int index) {
        return index >= 0 && index < arraySizes[array];
    }

    // Numbers

    private static long quotient(long dividend, long divisor) {
        return divisor > 0 ? dividend / divisor : 0;
    }

    private static long remainder(long dividend, long divisor) {
        return divisor > 0 ? dividend % divisor : 0;
    }

    private static long gcd(long first, long second) {
        long greater = first;
        long less = second;
        for (int step = 0; step < EUCLID_STEPS && less > 0; step++) {
            long rest = greater % less;
            greater = less;
            less = rest;
        }
        return greater;
    }

    /** The number of integers from 1 to n that have no divisor in common with n. */
    private static int totient(int n) {
        int result = n;
        int rest = n;
        for (int divisor = 2; divisor <= LARGEST_ORDER && divisor * divisor <= rest; divisor++) {
            if (rest % divisor == 0) {
                result -= result / divisor;
                rest = withoutFactor(rest, divisor);
            }
        }
        return rest > 1 ? result - result / rest : result;
    }

    private static int withoutFactor(int n, int factor) {
        int rest = n;
        for (int step = 0; step < EUCLID_STEPS && factor > 1 && rest % factor == 0; step++) {
            rest /= factor;
        }
        return rest;
    }

    private long crossDifference(int first, int second) {
        return (long) tops[first] * bottoms[second] - (long) bottoms[first] * tops[second];
    }

    /** Sets a register to a positive rational number, or answers TOO_LARGE. */
    private int store(int target, long top, long bottom) {
        long divisor = gcd(top, bottom);
        long reducedTop = quotient(top, divisor);
        long reducedBottom = quotient(bottom, divisor);
        if (reducedTop > LARGEST || reducedBottom > LARGEST) {
            return TOO_LARGE;
        }
        tops[target] = (int) reducedTop;
        bottoms[target] = (int) reducedBottom;
        return DONE;
    }

    private int storeConvergent(int target, Expansion terms, int i) {
        return store(target, terms.convergentTop(i), terms.convergentBottom(i));
    }

    private Expansion expand(int register) {
        expansion.expand(tops[register], bottoms[register]);
        return expansion;
    }

    private boolean hasTermListValue() {
        if (termListSize == 0) {
            return false;
        }
        for (int i = 1; i < termListSize; i++) {
            if (termList[i] == 0) {
                return false;
            }
        }
        return termListSize > 1 || termList[0] > 0;
    }

    /** The side of the bound that is nearer to the source; the bounds are those with a limit below its denominator. */
    private int nearerSide(int source, Expansion terms) {
        long top = tops[source];
        long bottom = bottoms[source];
        long leftBottom = terms.boundBottom(LEFT);
        long rightBottom = terms.boundBottom(RIGHT);
        long leftDistance = (top * leftBottom - bottom * terms.boundTop(LEFT)) * rightBottom;
        long rightDistance = (bottom * terms.boundTop(RIGHT) - top * rightBottom) * leftBottom;
        if (leftDistance == rightDistance) {
            return leftBottom <= rightBottom ? LEFT : RIGHT;
        }
        return leftDistance < rightDistance ? LEFT : RIGHT;
    }

    // Ranks

    private void collectRanked(int low, int high, int measure) {
        ranking.clear();
        for (int bottom = 1; bottom <= RANKED_DENOMINATOR; bottom++) {
            for (int top = 1; top < RANKED_END * bottom; top++) {
                if (isBetween(low, high, top, bottom) && gcd(top, bottom) == 1) {
                    ranking.add(top, bottom, measureOf(measure, top, bottom));
                }
            }
        }
    }

    private boolean isBetween(int low, int high, int top, int bottom) {
        return (long) tops[low] * bottom < (long) top * bottoms[low]
                && (long) top * bottoms[high] < (long) tops[high] * bottom;
    }

    private int measureOf(int measure, int top, int bottom) {
        expansion.expand(top, bottom);
        switch (measure) {
            case 0:
                return bottom;
            case 1:
                return top + bottom;
            case 2:
                return expansion.stepCount();
            case 3:
                return expansion.greatest();
            default:
                return -expansion.size();
        }
    }

    // Words

    private int wordSize(int register) {
        return tops[register] + bottoms[register];
    }

    private static int letterOf(long top, long bottom, long i) {
        long size = top + bottom;
        return remainder((i + 1) * top, size) > remainder(i * top, size) ? 0 : 1;
    }

    /** The number of ones in an array, or 0 if an element is neither 0 nor 1. */
    private int onesOfWord(int array) {
        int ones = 0;
        for (int i = 0; i < arraySizes[array]; i++) {
            int letter = arrays[array][i];
            if (letter != 0 && letter != 1) {
                return 0;
            }
            ones += letter;
        }
        return ones;
    }

    private int classOfWord(int array, int ones, int zeros) {
        if (isRotatedWord(array, ones, zeros, 0)) {
            return 1;
        }
        if (isReversedWord(array, ones, zeros)) {
            return 2;
        }
        for (int moved = 1; moved < arraySizes[array]; moved++) {
            if (isRotatedWord(array, ones, zeros, moved)) {
                return 3;
            }
        }
        return 0;
    }

    private boolean isRotatedWord(int array, int ones, int zeros, int moved) {
        int size = ones + zeros;
        for (int i = 0; i < arraySizes[array]; i++) {
            if (arrays[array][i] != letterOf(ones, zeros, remainder(i + moved, size))) {
                return false;
            }
        }
        return true;
    }

    private boolean isReversedWord(int array, int ones, int zeros) {
        int last = ones + zeros - 1;
        for (int i = 0; i < arraySizes[array]; i++) {
            if (arrays[array][i] != letterOf(ones, zeros, last - i)) {
                return false;
            }
        }
        return true;
    }

    // Path texts

    private static boolean isDigit(int character) {
        return character >= '0' && character <= '9';
    }

    /** The position of the first character that cannot be part of a valid text, or -1. */
    private int firstWrongCharacter() {
        // Before the first step no digit may stand, as if its count were already complete.
        int digits = COUNT_DIGITS;
        for (int i = 0; i < textSize; i++) {
            int character = text[i];
            if (character == 'L' || character == 'R') {
                digits = 0;
            } else if (isDigit(character) && digits < COUNT_DIGITS && (digits > 0 || character != '0')) {
                digits++;
            } else {
                return i;
            }
        }
        return -1;
    }

    /** Applies a valid text to the source, from its end to its beginning. */
    private int applyText(int target, int source) {
        long top = tops[source];
        long bottom = bottoms[source];
        long steps = 0;
        long placeValue = 1;
        for (int i = textSize - 1; i >= 0; i--) {
            if (isDigit(text[i])) {
                steps += (text[i] - '0') * placeValue;
                placeValue *= 10;
            } else {
                long times = placeValue == 1 ? 1 : steps;
                if (text[i] == 'R') {
                    top += times * bottom;
                } else {
                    bottom += times * top;
                }
                // Both only grow, so looking after each block of equal steps finds what each step would.
                if (top > LARGEST || bottom > LARGEST) {
                    return TOO_LARGE;
                }
                steps = 0;
                placeValue = 1;
            }
        }
        return store(target, top, bottom);
    }

    private static int digitCount(int n) {
        int digits = 1;
        for (int power = 10; power <= LARGEST && power <= n; power *= 10) {
            digits++;
        }
        return digits;
    }

    private static int runTextSize(int steps) {
        if (steps <= 0) {
            return 0;
        }
        return steps == 1 ? 1 : 1 + digitCount(steps);
    }

    private static int runCharacter(int run, int steps, int place) {
        if (place == 0) {
            return run % 2 == 0 ? 'R' : 'L';
        }
        int rest = steps;
        for (int dropped = digitCount(steps) - place; dropped > 0; dropped--) {
            rest /= 10;
        }
        return '0' + rest % 10;
    }

    // Slots and arrays

    private static Node newNode(int kind, int top, int bottom) {
        switch (kind) {
            case NODE:
                return new Node(NODE, top, bottom);
            case BRANCH:
                return new Branch(BRANCH, top, bottom);
            case TWIG:
                return new Twig(TWIG, top, bottom);
            case LEAF:
                return new Leaf(top, bottom);
            case ROOT:
                return new Root(top, bottom);
            default:
                return null;
        }
    }

    private static boolean isOfKind(Node node, int kind) {
        switch (kind) {
            case NODE:
                return true;
            case BRANCH:
                return node instanceof Branch;
            case TWIG:
                return node instanceof Twig;
            case LEAF:
                return node instanceof Leaf;
            default:
                return node instanceof Root;
        }
    }

    private int nodeCount() {
        int nodes = 0;
        for (int slot = 0; slot < SLOTS; slot++) {
            if (slots[slot] != null) {
                nodes++;
            }
        }
        return nodes;
    }

    private int arrayCount() {
        int held = 0;
        for (int array = 0; array < ARRAYS; array++) {
            if (arraySizes[array] != NULL_ARRAY) {
                held++;
            }
        }
        return held;
    }

    private int valueOf(int register, Expansion terms, int what, int i) {
        switch (what) {
            case 0:
                return terms.at(i);
            case 1:
                return letterOf(tops[register], bottoms[register], i);
            default:
                return terms.stepAt(i);
        }
    }

    /** The terms of a fraction, and what follows from them: its path, its convergents and two bounds around it. */
    private static final class Expansion {
        private final int[] terms = new int[TERM_ROOM];
        private int size;
        private long leftTop;
        private long leftBottom;
        private long rightTop;
        private long rightBottom;

        void expand(int top, int bottom) {
            int dividend = top;
            int divisor = bottom;
            size = 0;
            for (int i = 0; i < TERM_ROOM && divisor > 0; i++) {
                append(dividend / divisor);
                int rest = dividend % divisor;
                dividend = divisor;
                divisor = rest;
            }
        }

        /** Becomes the terms of the simplest number strictly between two ends, of which the first one is less. */
        void becomeSimplestBetween(int lowTop, int lowBottom, int highTop, int highBottom) {
            long a = lowTop;
            long b = lowBottom;
            long c = highTop;
            long d = highBottom;
            size = 0;
            for (int i = 0; i < TERM_ROOM; i++) {
                long whole = quotient(a, b);
                if ((whole + 1) * d < c) {
                    append((int) whole + 1);
                    return;
                }
                append((int) whole);
                // What follows lies between the reciprocals of the rests, and those are in the other
                // order; the greater one is 1 / 0 if the lower end is whole.
                long lowRest = a - whole * b;
                long highRest = c - whole * d;
                a = d;
                c = b;
                b = highRest;
                d = lowRest;
            }
        }

        private void append(int term) {
            if (size < TERM_ROOM) {
                terms[size] = term;
                size++;
            }
        }

        int size() {
            return size;
        }

        int at(int i) {
            return i >= 0 && i < size ? terms[i] : 0;
        }

        int greatest() {
            int result = 0;
            for (int i = 0; i < size; i++) {
                if (terms[i] > result) {
                    result = terms[i];
                }
            }
            return result;
        }

        /** The length of the block of steps that belongs to term i: R for even i, L for odd i, and 0 if there is none. */
        int runAt(int i) {
            return i == size - 1 ? at(i) - 1 : at(i);
        }

        int stepCount() {
            int steps = 0;
            for (int i = 0; i < size; i++) {
                steps += runAt(i);
            }
            return steps;
        }

        int stepAt(int i) {
            int left = i;
            for (int j = 0; j < size; j++) {
                if (left < runAt(j)) {
                    return j % 2 == 0 ? RIGHT : LEFT;
                }
                left -= runAt(j);
            }
            return NONE;
        }

        int commonSteps(Expansion other) {
            int common = 0;
            for (int i = 0; i < size && i < other.size; i++) {
                int mine = runAt(i);
                int its = other.runAt(i);
                common += mine < its ? mine : its;
                if (mine != its) {
                    return common;
                }
            }
            return common;
        }

        /** Becomes the terms of the fraction at a depth of the path; the depth is not greater than that of its end. */
        void cutToDepth(int depth) {
            int left = depth;
            for (int i = 0; i < size; i++) {
                int steps = runAt(i);
                if (left <= steps) {
                    terms[i] = left + 1;
                    size = i + 1;
                    return;
                }
                left -= steps;
            }
        }

        /** For -1 the answer is that of 1 / 0, for -2 that of 0 / 1, as the rule for the next one asks. */
        long convergentTop(int i) {
            return lastByRule(i, 0, 1);
        }

        long convergentBottom(int i) {
            return lastByRule(i, 1, 0);
        }

        private long lastByRule(int last, long twoBefore, long oneBefore) {
            if (last < -1) {
                return twoBefore;
            }
            long before = twoBefore;
            long result = oneBefore;
            for (int i = 0; i <= last && i < size; i++) {
                long next = terms[i] * result + before;
                before = result;
                result = next;
            }
            return result;
        }

        /** Finds the bounds of the fraction in the tree. */
        void findBounds() {
            surround(size - 2, at(size - 1) - 1);
        }

        /** Finds the nearest numbers on both sides with a denominator up to a limit below that of the fraction. */
        void findNeighbours(int limit) {
            int last = 0;
            for (int i = 1; i < size && convergentBottom(i) <= limit; i++) {
                last = i;
            }
            surround(last, quotient(limit - convergentBottom(last - 1), convergentBottom(last)));
        }

        /** Takes a convergent, and the number that lies so many mediants from the one before on the way to it. */
        private void surround(int i, long mediants) {
            long top = convergentTop(i);
            long bottom = convergentBottom(i);
            long otherTop = convergentTop(i - 1) + mediants * top;
            long otherBottom = convergentBottom(i - 1) + mediants * bottom;
            // Convergents with an even number are less than the fraction.
            boolean less = i % 2 == 0;
            leftTop = less ? top : otherTop;
            leftBottom = less ? bottom : otherBottom;
            rightTop = less ? otherTop : top;
            rightBottom = less ? otherBottom : bottom;
        }

        long boundTop(int side) {
            return side == LEFT ? leftTop : rightTop;
        }

        long boundBottom(int side) {
            return side == LEFT ? leftBottom : rightBottom;
        }
    }

    /** The fractions that are ranked, each with its key, added by ascending denominator and then numerator. */
    private static final class Ranking {
        // There are 719 fractions below 4 with a denominator up to 24.
        private static final int ROOM = 720;
        // The greatest measure is 95 + 24, and the least one is minus a number of terms, which is below 20.
        private static final int LEAST_KEY = -20;
        private static final int KEYS = 160;

        private final int[] rankedTops = new int[ROOM];
        private final int[] rankedBottoms = new int[ROOM];
        private final int[] keys = new int[ROOM];
        private final int[] tally = new int[KEYS];
        private int size;

        void clear() {
            size = 0;
            for (int key = 0; key < KEYS; key++) {
                tally[key] = 0;
            }
        }

        void add(int top, int bottom, int measured) {
            int key = measured - LEAST_KEY;
            if (size < ROOM && key >= 0 && key < KEYS) {
                rankedTops[size] = top;
                rankedBottoms[size] = bottom;
                keys[size] = key;
                tally[key]++;
                size++;
            }
        }

        int size() {
            return size;
        }

        /** The place of the fraction with a rank below the size; equal keys keep the order in which they were added. */
        int placeOf(int rank) {
            int left = rank;
            int key = 0;
            while (key < KEYS - 1 && left >= tally[key]) {
                left -= tally[key];
                key++;
            }
            for (int place = 0; place < size; place++) {
                if (keys[place] == key) {
                    if (left == 0) {
                        return place;
                    }
                    left--;
                }
            }
            return 0;
        }

        int topAt(int place) {
            return place >= 0 && place < size ? rankedTops[place] : 1;
        }

        int bottomAt(int place) {
            return place >= 0 && place < size ? rankedBottoms[place] : 1;
        }
    }

    private static class Node {
        private final int kind;
        final int top;
        final int bottom;

        Node(int kind, int top, int bottom) {
            this.kind = kind;
            this.top = top;
            this.bottom = bottom;
        }

        final int kind() {
            return kind;
        }

        int grow(int x) {
            return x + top;
        }

        int bend(int x) {
            return grow(x) * 3 - bottom;
        }
    }

    private static class Branch extends Node {
        Branch(int kind, int top, int bottom) {
            super(kind, top, bottom);
        }

        int grow(int x) {
            return super.grow(x * 2);
        }
    }

    private static class Twig extends Branch {
        Twig(int kind, int top, int bottom) {
            super(kind, top, bottom);
        }

        int bend(int x) {
            return super.bend(x) + bottom;
        }
    }

    private static final class Leaf extends Twig {
        Leaf(int top, int bottom) {
            super(LEAF, top, bottom);
        }

        int grow(int x) {
            return super.grow(x) ^ 5;
        }

        int bend(int x) {
            return super.bend(grow(x));
        }
    }

    private static final class Root extends Node {
        Root(int top, int bottom) {
            super(ROOT, top, bottom);
        }

        int grow(int x) {
            return 0 - super.grow(x);
        }
    }
}
