/**
 * The ends of the ranges of arguments: registers 0 to 7, slots 0 to 4, array slots 0 to 2, and the
 * operations, sides, kinds and measures. The ends answer, what lies beyond them is refused.
 */
final class RangeEdgeTest {
    private static final int BAD = -1;
    private static final int MIN = Integer.MIN_VALUE;
    private static final int MAX = Integer.MAX_VALUE;

    private interface At {
        long on(SternBrocotExplorer x, int argument);
    }

    private interface Change {
        void on(SternBrocotExplorer x, int argument);
    }

    private RangeEdgeTest() {
    }

    public static void main(String[] args) {
        registersThatAreRead();
        registersThatAreSet();
        firstSources();
        secondSources();
        slots();
        arraySlots();
        operations();
        kindsAndSides();
        measuresAndCounters();
        Due.end();
    }

    private static void beyond(String told, long code, int least, int greatest, At call) {
        for (int wrong : new int[] {least - 1, greatest + 1, MIN, MAX}) {
            Edge.refuses(told + " of " + wrong, code, x -> call.on(x, wrong));
        }
    }

    /** The register at each end holds 43/30, which is read; the other registers are those of Edge. */
    private static void reads(String told, long code, long due, At call) {
        beyond(told, code, 0, 7, call);
        for (int end : new int[] {0, 7}) {
            Edge.answers(told + " of " + end, x -> x.set(end, 43, 30), due, x -> call.on(x, end));
        }
    }

    private static void registersThatAreRead() {
        reads("numerator", BAD, 43, (x, r) -> x.numerator(r));
        reads("denominator", BAD, 30, (x, r) -> x.denominator(r));
        reads("compare's first", BAD, 2, (x, r) -> x.compare(r, 3));
        reads("compare's second", BAD, 0, (x, r) -> x.compare(3, r));
        reads("determinant's first", Long.MIN_VALUE, 327, (x, r) -> x.determinant(r, 3));
        reads("determinant's second", Long.MIN_VALUE, -327, (x, r) -> x.determinant(3, r));
        reads("depth", BAD, 9, (x, r) -> x.depth(r));
        reads("pathStep", BAD, 1, (x, r) -> x.pathStep(r, 5));
        reads("runCount", BAD, 4, (x, r) -> x.runCount(r));
        reads("run", BAD, 2, (x, r) -> x.run(r, 1));
        reads("termCount", BAD, 4, (x, r) -> x.termCount(r));
        reads("term", BAD, 4, (x, r) -> x.term(r, 3));
        reads("calkinWilfIndex", Long.MIN_VALUE, 569, (x, r) -> x.calkinWilfIndex(r));
        reads("wordLetter", BAD, 1, (x, r) -> x.wordLetter(r, 72));
        reads("factorLength", BAD, 17, (x, r) -> x.factorLength(r));
        reads("dedekind", MIN, 20, (x, r) -> x.dedekind(r));
        reads("pathTextLength", BAD, 7, (x, r) -> x.pathTextLength(r));
        reads("pathText", BAD, '3', (x, r) -> x.pathText(r, 6));
    }

    private static void target(String told, long due, int top, int bottom, At call) {
        beyond(told + "'s target", BAD, 0, 7, call);
        for (int end : new int[] {0, 7}) {
            Edge.sets(told + "'s target of " + end, Edge.NOTHING, due, x -> call.on(x, end), end, top, bottom);
        }
    }

    private static void registersThatAreSet() {
        beyond("set's register", BAD, 0, 7, (x, r) -> x.set(r, 3, 8));
        for (int end : new int[] {0, 7}) {
            SternBrocotExplorer x = new SternBrocotExplorer();
            Due.is("set's register of " + end, x.set(end, 3, 8), 1);
            for (int register = 0; register < 8; register++) {
                Due.fraction(x, register, register == end ? 3 : 1, register == end ? 8 : 1);
            }
        }
        target("combine", 1, 85, 18, (x, r) -> x.combine(r, 3, 4, 0));
        target("ancestor", 1, 1, 3, (x, r) -> x.ancestor(r, 3, 2));
        target("bound", 1, 1, 5, (x, r) -> x.bound(r, 3, 0));
        target("child", 1, 3, 13, (x, r) -> x.child(r, 3, 1));
        target("commonAncestor", 0, 1, 1, (x, r) -> x.commonAncestor(r, 3, 4));
        target("convergent", 1, 1, 4, (x, r) -> x.convergent(r, 3, 1));
        target("fromTerms", 1, 43, 30, (x, r) -> x.fromTerms(r));
        target("best", 1, 1, 5, (x, r) -> x.best(r, 3, 8, 0));
        target("simplestBetween", 1, 1, 1, (x, r) -> x.simplestBetween(r, 3, 4));
        target("rankedBetween", 679, 1, 1, (x, r) -> x.rankedBetween(r, 3, 4, 0, 0));
        target("fareyNext", 1, 1, 4, (x, r) -> x.fareyNext(r, 3, 5));
        target("fromCalkinWilf", 1, 3, 8, (x, r) -> x.fromCalkinWilf(r, 20));
        target("calkinWilfNext", 1, 9, 7, (x, r) -> x.calkinWilfNext(r, 3));
        target("recognizeWord", 1, 2, 3, (x, r) -> x.recognizeWord(r, 1));
        beyond("followPath's target", BAD, 0, 7, (x, r) -> x.followPath(r, 3));
        for (int end : new int[] {0, 7}) {
            Edge.changes("followPath's target of " + end, Edge.NOTHING, 1, x -> x.followPath(end, 3), x -> {
                x.discardText();
                x.set(end, 15, 13);
            });
        }
    }

    /** The register at each end holds 43/30 and is a source; register 5 is the target. */
    private static void source(String told, long due, int top, int bottom, At call) {
        beyond(told, BAD, 0, 7, call);
        for (int end : new int[] {0, 7}) {
            Edge.sets(told + " of " + end, x -> x.set(end, 43, 30), due, x -> call.on(x, end), 5, top, bottom);
        }
    }

    private static void firstSources() {
        source("combine's first", 1, 149, 90, (x, r) -> x.combine(5, r, 3, 0));
        source("ancestor's source", 1, 33, 23, (x, r) -> x.ancestor(5, r, 8));
        source("bound's source", 1, 10, 7, (x, r) -> x.bound(5, r, 0));
        source("child's source", 1, 53, 37, (x, r) -> x.child(5, r, 0));
        source("commonAncestor's first", 1, 2, 1, (x, r) -> x.commonAncestor(5, r, 4));
        source("convergent's source", 1, 10, 7, (x, r) -> x.convergent(5, r, 2));
        source("best's source", 1, 33, 23, (x, r) -> x.best(5, r, 29, 0));
        source("simplestBetween's low", 1, 2, 1, (x, r) -> x.simplestBetween(5, r, 4));
        source("rankedBetween's low", 462, 2, 1, (x, r) -> x.rankedBetween(5, r, 4, 0, 0));
        source("fareyNext's source", 1, 33, 23, (x, r) -> x.fareyNext(5, r, 29));
        source("calkinWilfNext's source", 1, 30, 47, (x, r) -> x.calkinWilfNext(5, r));
        beyond("followPath's source", BAD, 0, 7, (x, r) -> x.followPath(5, r));
        for (int end : new int[] {0, 7}) {
            Edge.changes("followPath's source of " + end, x -> x.set(end, 2, 3), 1, x -> x.followPath(5, end), x -> {
                x.discardText();
                x.set(5, 9, 7);
            });
        }
    }

    private static void secondSources() {
        source("combine's second", 1, 149, 90, (x, r) -> x.combine(5, 3, r, 0));
        source("commonAncestor's second", 1, 2, 1, (x, r) -> x.commonAncestor(5, 4, r));
        source("simplestBetween's high", 1, 1, 1, (x, r) -> x.simplestBetween(5, 3, r));
        source("rankedBetween's high", 217, 1, 1, (x, r) -> x.rankedBetween(5, 3, r, 0, 0));
        beyond("plant's register", BAD, 0, 7, (x, r) -> x.plant(4, 2, r));
        beyond("plant's register with kind -1", BAD, 0, 7, (x, r) -> x.plant(0, -1, r));
        for (int end : new int[] {0, 7}) {
            Edge.changes("plant's register of " + end, x -> x.set(end, 2, 9), 0, x -> x.plant(4, 2, end),
                    x -> x.plant(4, 2, 3));
        }
        beyond("fillArray's register", BAD, 0, 7, (x, r) -> x.fillArray(0, r, 0));
        for (int end : new int[] {0, 7}) {
            Edge.changes("fillArray's register of " + end, x -> x.set(end, 30, 43), 5, x -> x.fillArray(0, end, 0),
                    Edge.array(0, "01234"));
        }
    }

    private static void slots() {
        beyond("plant's slot", BAD, 0, 4, (x, s) -> x.plant(s, 1, 0));
        beyond("plant's slot with kind -1", BAD, 0, 4, (x, s) -> x.plant(s, -1, 0));
        beyond("operate's slot", 0, 0, 4, (x, s) -> x.operate(s, 0, 5));
        beyond("castNode's slot", BAD, 0, 4, (x, s) -> x.castNode(s, 0));
        for (int end : new int[] {0, 4}) {
            SternBrocotExplorer x = new SternBrocotExplorer();
            Due.is("plant's slot of " + end, x.plant(end, 1, 0), 0);
            for (int slot = 0; slot < 5; slot++) {
                Due.is("castNode's slot of " + slot, x.castNode(slot, 0), slot == end ? 1 : -11);
                Due.is("operate's slot of " + slot, x.operate(slot, 0, 5), slot == end ? 11 : 0);
            }
        }
    }

    private static void arraySlots() {
        beyond("recognizeWord's array", BAD, 0, 2, (x, a) -> x.recognizeWord(0, a));
        beyond("newArray's array", BAD, 0, 2, (x, a) -> x.newArray(a, 1));
        beyond("newArray's array for null", BAD, 0, 2, (x, a) -> x.newArray(a, -1));
        beyond("setElement's array", BAD, 0, 2, (x, a) -> x.setElement(a, 0, 1));
        beyond("element's array", Long.MIN_VALUE, 0, 2, (x, a) -> x.element(a, 0));
        beyond("fillArray's array", BAD, 0, 2, (x, a) -> x.fillArray(a, 0, 0));
        for (int end : new int[] {0, 2}) {
            SternBrocotExplorer x = new SternBrocotExplorer();
            Due.is("newArray's array of " + end, x.newArray(end, 2), 1);
            Due.is("setElement's array of " + end, x.setElement(end, 1, 1), 1);
            Due.is("recognizeWord's array of " + end, x.recognizeWord(0, end), 1);
            for (int array = 0; array < 3; array++) {
                Due.is("element's array of " + array, x.element(array, 1), array == end ? 1 : Long.MIN_VALUE);
            }
            Due.is("fillArray's array of " + end, x.fillArray(end, 0, 0), 1);
            for (int array = 0; array < 3; array++) {
                Due.is("the filled array " + array, x.element(array, 0), array == end ? 1 : Long.MIN_VALUE);
            }
        }
    }

    /** The change that is due is told for both ends of a range that begins with 0. */
    private static void range(String told, long code, int greatest, At call, long[] due, Change change) {
        beyond(told, code, 0, greatest, call);
        for (int end : new int[] {0, greatest}) {
            Edge.changes(told + " of " + end, Edge.NOTHING, due[end == 0 ? 0 : 1], x -> call.on(x, end),
                    x -> change.on(x, end));
        }
    }

    private static void operations() {
        range("combine's operation", BAD, 4, (x, o) -> x.combine(7, 3, 1, o), new long[] {1, 1},
                (x, o) -> x.set(7, o == 0 ? 59 : 7, o == 0 ? 63 : 16));
        Edge.sets("combine's operation of 1", Edge.NOTHING, 1, x -> x.combine(7, 1, 3, 1), 7, 31, 63);
        Edge.sets("combine's operation of 2", Edge.NOTHING, 1, x -> x.combine(7, 3, 1, 2), 7, 10, 63);
        Edge.sets("combine's operation of 3", Edge.NOTHING, 1, x -> x.combine(7, 3, 1, 3), 7, 14, 45);
        range("operate's operation", 0, 1, (x, o) -> x.operate(3, o, 10), new long[] {12, 27}, (x, o) -> { });
    }

    private static void kindsAndSides() {
        range("bound's side", BAD, 1, (x, s) -> x.bound(7, 0, s), new long[] {1, 1},
                (x, s) -> x.set(7, s == 0 ? 10 : 33, s == 0 ? 7 : 23));
        range("child's side", BAD, 1, (x, s) -> x.child(7, 0, s), new long[] {1, 1},
                (x, s) -> x.set(7, s == 0 ? 53 : 76, s == 0 ? 37 : 53));
        range("best's kind", BAD, 2, (x, k) -> x.best(7, 2, 112, k), new long[] {1, 1},
                (x, k) -> x.set(7, k == 0 ? 333 : 22, k == 0 ? 106 : 7));
        Edge.sets("best's kind of 1", Edge.NOTHING, 1, x -> x.best(7, 2, 105, 1), 7, 311, 99);
        range("castNode's kind", BAD, 4, (x, k) -> x.castNode(2, k), new long[] {4, 4}, (x, k) -> { });
        beyond("castNode's kind for an empty slot", BAD, 0, 4, (x, k) -> x.castNode(4, k));
        beyond("plant's kind", BAD, -1, 4, (x, k) -> x.plant(0, k, 1));
        beyond("plant's kind for an empty slot", BAD, -1, 4, (x, k) -> x.plant(4, k, 1));
        for (int kind = -1; kind <= 4; kind++) {
            SternBrocotExplorer x = new SternBrocotExplorer();
            Due.is("plant's kind of " + kind, x.plant(0, kind, 0), 0);
            Due.is("castNode then", x.castNode(0, 0), kind == -1 ? -11 : kind);
        }
        range("fillArray's what", BAD, 2, (x, w) -> x.fillArray(2, 3, w), new long[] {3, 5},
                (x, w) -> Edge.array(2, w == 0 ? "042" : "00001").on(x));
        Edge.changes("fillArray's what of 1", Edge.NOTHING, 11, x -> x.fillArray(2, 3, 1),
                Edge.array(2, "00000100001"));
    }

    private static void measuresAndCounters() {
        range("rankedBetween's measure", BAD, 4, (x, m) -> x.rankedBetween(7, 3, 0, m, 216), new long[] {217, 217},
                (x, m) -> x.set(7, m == 0 ? 31 : 1, m == 0 ? 24 : 1));
        beyond("rankedBetween's measure for an empty interval", BAD, 0, 4, (x, m) -> x.rankedBetween(7, 0, 3, m, 0));
        range("count's what", BAD, 3, (x, w) -> x.count(w), new long[] {4, 2}, (x, w) -> { });
        Edge.answers("count's what of 1", Edge.NOTHING, 3, x -> x.count(1));
        Edge.answers("count's what of 2", Edge.NOTHING, 4, x -> x.count(2));
    }
}
