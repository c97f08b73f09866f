/** Promises 8 to 15 at their boundaries: depths, steps, runs, ancestors, bounds and children. */
final class TreeEdgeTest {
    private static final int BAD = -1;
    private static final int NONE = -2;
    private static final int TOO_LARGE = -3;
    private static final int MIN = Integer.MIN_VALUE;
    private static final int MAX = Integer.MAX_VALUE;

    private TreeEdgeTest() {
    }

    public static void main(String[] args) {
        promise8TheLeastAndTheGreatestDepths();
        promise9TheFirstAndTheLastStep();
        promise10RunsOfLengthZeroAreLeftOut();
        promise11TheFirstAndTheLastRun();
        promise12TheEndsOfThePath();
        promise12TheTargetMayBeTheSource();
        promise13BoundsThatAreNoFractions();
        promise13BoundsThatAre();
        promise14ChildrenOfTheGreatestSize();
        promise14ChildrenThatAreTooLarge();
        promise15TheEndsOfThePathsCount();
        promise15TheTargetMayBeOneOfTheOthers();
        refusedArgumentsComeFirst();
        Due.end();
    }

    private static void has(String told, int top, int bottom, long due, Edge.Call call) {
        Edge.answers(told + " of " + top + "/" + bottom, Edge.registers(top, bottom), due, call);
    }

    private static void promise8TheLeastAndTheGreatestDepths() {
        int[][] depths = {{1, 1, 0}, {2, 1, 1}, {1, 2, 1}, {3, 2, 2}, {2, 3, 2}, {3, 1, 2}, {1, 3, 2},
            {999999, 1, 999998}, {1000000, 1, 999999}, {1, 999999, 999998}, {1, 1000000, 999999},
            {999999, 1000000, 999999}, {1000000, 999999, 999999}, {999999, 2, 500000}, {832040, 514229, 28}};
        for (int[] each : depths) {
            has("depth", each[0], each[1], each[2], x -> x.depth(0));
        }
    }

    private static void promise9TheFirstAndTheLastStep() {
        for (int i : new int[] {-1, MIN}) {
            has("pathStep " + i, 43, 30, BAD, x -> x.pathStep(0, i));
            has("pathStep " + i, 1, 1, BAD, x -> x.pathStep(0, i));
        }
        has("pathStep 0", 1, 1, NONE, x -> x.pathStep(0, 0));
        has("pathStep 0", 2, 1, 1, x -> x.pathStep(0, 0));
        has("pathStep 1", 2, 1, NONE, x -> x.pathStep(0, 1));
        has("pathStep 0", 1, 2, 0, x -> x.pathStep(0, 0));
        has("pathStep 1", 1, 2, NONE, x -> x.pathStep(0, 1));
        // Its runs are R, LL, RRR and LLL: the first and the last step of each.
        int[] steps = {1, 0, 0, 1, 1, 1, 0, 0, 0, NONE, NONE};
        for (int i = 0; i < steps.length; i++) {
            int place = i;
            has("pathStep " + i, 43, 30, steps[i], x -> x.pathStep(0, place));
            has("pathStep " + i, 30, 43, steps[i] < 0 ? NONE : 1 - steps[i], x -> x.pathStep(0, place));
        }
        for (int[] each : new int[][] {{1000000, 1, 1, 1}, {1, 1000000, 0, 0}, {999999, 1000000, 0, 1},
            {1000000, 999999, 1, 0}}) {
            has("the first step", each[0], each[1], each[2], x -> x.pathStep(0, 0));
            has("the second step", each[0], each[1], each[3], x -> x.pathStep(0, 1));
            has("the last step but one", each[0], each[1], each[3], x -> x.pathStep(0, 999997));
            has("the last step", each[0], each[1], each[3], x -> x.pathStep(0, 999998));
            has("the step behind it", each[0], each[1], NONE, x -> x.pathStep(0, 999999));
            has("pathStep MAX", each[0], each[1], NONE, x -> x.pathStep(0, MAX));
        }
    }

    private static void promise10RunsOfLengthZeroAreLeftOut() {
        int[][] counts = {{1, 1, 0}, {2, 1, 1}, {1, 2, 1}, {1000000, 1, 1}, {1, 1000000, 1}, {3, 2, 2}, {2, 3, 2},
            {999999, 1000000, 2}, {1000000, 999999, 2}, {5, 3, 3}, {3, 5, 3}, {43, 30, 4}, {30, 43, 4},
            {832040, 514229, 28}, {514229, 832040, 28}};
        for (int[] each : counts) {
            has("runCount", each[0], each[1], each[2], x -> x.runCount(0));
        }
    }

    private static void runs(int top, int bottom, int... lengths) {
        for (int i = 0; i <= lengths.length; i++) {
            int place = i;
            has("run " + i, top, bottom, i < lengths.length ? lengths[i] : NONE, x -> x.run(0, place));
        }
        has("run MAX", top, bottom, NONE, x -> x.run(0, MAX));
        has("run -1", top, bottom, BAD, x -> x.run(0, -1));
        has("run MIN", top, bottom, BAD, x -> x.run(0, MIN));
    }

    private static void promise11TheFirstAndTheLastRun() {
        runs(1, 1);
        runs(2, 1, 1);
        runs(1, 2, 1);
        runs(3, 1, 2);
        runs(3, 2, 1, 1);
        runs(2, 3, 1, 1);
        runs(43, 30, 1, 2, 3, 3);
        runs(30, 43, 1, 2, 3, 3);
        runs(1000000, 1, 999999);
        runs(1, 1000000, 999999);
        runs(999999, 1000000, 1, 999998);
        runs(1000000, 999999, 1, 999998);
        int[] ones = new int[28];
        java.util.Arrays.fill(ones, 1);
        runs(832040, 514229, ones);
        runs(514229, 832040, ones);
    }

    /** Register 6 is set to the ancestor, or stays if the numerator is an error code. */
    private static void ancestor(int top, int bottom, int depth, int due, int dueBottom) {
        String told = "ancestor of " + top + "/" + bottom + " at depth " + depth;
        Edge.Calls before = Edge.registers(top, bottom);
        if (due < 0) {
            Edge.refuses(told, before, due, x -> x.ancestor(6, 0, depth));
        } else {
            Edge.sets(told, before, 1, x -> x.ancestor(6, 0, depth), 6, due, dueBottom);
        }
    }

    private static void promise12TheEndsOfThePath() {
        for (int[] each : new int[][] {{1, 1, 0}, {2, 1, 1}, {1, 2, 1}, {43, 30, 9}, {30, 43, 9}, {2, 7, 4},
            {1000000, 1, 999999}, {1, 1000000, 999999}, {999999, 1000000, 999999}, {832040, 514229, 28}}) {
            int depth = each[2];
            ancestor(each[0], each[1], -1, BAD, 0);
            ancestor(each[0], each[1], MIN, BAD, 0);
            ancestor(each[0], each[1], 0, 1, 1);
            ancestor(each[0], each[1], depth, each[0], each[1]);
            ancestor(each[0], each[1], depth + 1, NONE, 0);
            ancestor(each[0], each[1], MAX, NONE, 0);
        }
        ancestor(43, 30, 1, 2, 1);
        ancestor(43, 30, 2, 3, 2);
        ancestor(43, 30, 3, 4, 3);
        ancestor(43, 30, 4, 7, 5);
        ancestor(43, 30, 8, 33, 23);
        ancestor(30, 43, 1, 1, 2);
        ancestor(30, 43, 8, 23, 33);
        ancestor(1000000, 1, 999998, 999999, 1);
        ancestor(1, 1000000, 999998, 1, 999999);
        ancestor(999999, 1000000, 1, 1, 2);
        ancestor(999999, 1000000, 999998, 999998, 999999);
        ancestor(832040, 514229, 27, 514229, 317811);
    }

    private static void promise12TheTargetMayBeTheSource() {
        Edge.sets("ancestor onto its source", Edge.NOTHING, 1, x -> x.ancestor(0, 0, 0), 0, 1, 1);
        Edge.sets("ancestor onto its source, at its depth", Edge.NOTHING, 1, x -> x.ancestor(0, 0, 9), 0, 43, 30);
        Edge.refuses("ancestor onto its source, too deep", NONE, x -> x.ancestor(0, 0, 10));
    }

    private static void bound(int top, int bottom, int side, int due, int dueBottom) {
        String told = "bound " + side + " of " + top + "/" + bottom;
        Edge.Calls before = Edge.registers(top, bottom);
        if (due < 0) {
            Edge.refuses(told, before, due, x -> x.bound(6, 0, side));
            Edge.refuses(told + " onto its source", before, due, x -> x.bound(0, 0, side));
        } else {
            Edge.sets(told, before, 1, x -> x.bound(6, 0, side), 6, due, dueBottom);
            Edge.sets(told + " onto its source", before, 1, x -> x.bound(0, 0, side), 0, due, dueBottom);
        }
    }

    private static void promise13BoundsThatAreNoFractions() {
        bound(1, 1, 0, NONE, 0);
        bound(1, 1, 1, NONE, 0);
        for (int n : new int[] {2, 3, 999999, 1000000}) {
            bound(1, n, 0, NONE, 0);
            bound(n, 1, 1, NONE, 0);
        }
    }

    private static void promise13BoundsThatAre() {
        for (int n : new int[] {2, 3, 999999, 1000000}) {
            bound(1, n, 1, 1, n - 1);
            bound(n, 1, 0, n - 1, 1);
        }
        bound(2, 3, 0, 1, 2);
        bound(2, 3, 1, 1, 1);
        bound(3, 2, 0, 1, 1);
        bound(3, 2, 1, 2, 1);
        bound(2, 999999, 0, 1, 500000);
        bound(2, 999999, 1, 1, 499999);
        bound(999999, 2, 0, 499999, 1);
        bound(999999, 2, 1, 500000, 1);
        bound(999999, 1000000, 0, 999998, 999999);
        bound(999999, 1000000, 1, 1, 1);
        bound(1000000, 999999, 0, 1, 1);
        bound(1000000, 999999, 1, 999999, 999998);
        bound(832040, 514229, 0, 317811, 196418);
        bound(832040, 514229, 1, 514229, 317811);
    }

    private static void child(int top, int bottom, int side, int due, int dueBottom) {
        String told = "child " + side + " of " + top + "/" + bottom;
        Edge.Calls before = Edge.registers(top, bottom);
        if (due < 0) {
            Edge.refuses(told, before, due, x -> x.child(6, 0, side));
            Edge.refuses(told + " onto its source", before, due, x -> x.child(0, 0, side));
        } else {
            Edge.sets(told, before, 1, x -> x.child(6, 0, side), 6, due, dueBottom);
            Edge.sets(told + " onto its source", before, 1, x -> x.child(0, 0, side), 0, due, dueBottom);
        }
    }

    private static void promise14ChildrenOfTheGreatestSize() {
        child(1, 1, 0, 1, 2);
        child(1, 1, 1, 2, 1);
        child(999998, 1, 1, 999999, 1);
        child(999999, 1, 1, 1000000, 1);
        child(1, 999998, 0, 1, 999999);
        child(1, 999999, 0, 1, 1000000);
        child(500000, 1, 0, 999999, 2);
        child(1, 500000, 1, 2, 999999);
        child(333333, 1, 1, 333334, 1);
        child(666667, 2, 0, 1000000, 3);
        child(2, 666667, 1, 3, 1000000);
        child(999998, 999999, 1, 999999, 1000000);
        child(999999, 999998, 0, 1000000, 999999);
        child(514229, 317811, 0, 832040, 514229);
    }

    private static void promise14ChildrenThatAreTooLarge() {
        child(1000000, 1, 1, TOO_LARGE, 0);
        child(1000000, 1, 0, TOO_LARGE, 0);
        child(1, 1000000, 0, TOO_LARGE, 0);
        child(1, 1000000, 1, TOO_LARGE, 0);
        child(500001, 1, 0, TOO_LARGE, 0);
        child(1, 500001, 1, TOO_LARGE, 0);
        child(666669, 2, 0, TOO_LARGE, 0);
        child(2, 666669, 1, TOO_LARGE, 0);
        child(999999, 1000000, 1, TOO_LARGE, 0);
        child(1000000, 999999, 0, TOO_LARGE, 0);
        child(832040, 514229, 0, TOO_LARGE, 0);
        child(832040, 514229, 1, TOO_LARGE, 0);
    }

    /** Register 6 is set to the common ancestor of two fractions, whichever of them comes first. */
    private static void common(int a, int b, int c, int d, int depth, int top, int bottom) {
        String told = "commonAncestor of " + a + "/" + b + " and " + c + "/" + d;
        Edge.Calls before = Edge.registers(a, b, c, d);
        Edge.sets(told, before, depth, x -> x.commonAncestor(6, 0, 1), 6, top, bottom);
        Edge.sets(told + " turned", before, depth, x -> x.commonAncestor(6, 1, 0), 6, top, bottom);
    }

    private static void promise15TheEndsOfThePathsCount() {
        common(1, 1, 1, 1, 0, 1, 1);
        common(1, 1, 43, 30, 0, 1, 1);
        common(1, 1000000, 1000000, 1, 0, 1, 1);
        common(1, 2, 2, 1, 0, 1, 1);
        common(43, 30, 43, 30, 9, 43, 30);
        common(43, 30, 33, 23, 8, 33, 23);
        common(43, 30, 53, 37, 9, 43, 30);
        common(53, 37, 76, 53, 9, 43, 30);
        common(2, 1, 3, 2, 1, 2, 1);
        common(3, 2, 3, 1, 1, 2, 1);
        common(1, 2, 2, 3, 1, 1, 2);
        common(43, 30, 17, 12, 5, 10, 7);
        common(1000000, 1, 1000000, 1, 999999, 1000000, 1);
        common(1000000, 1, 999999, 1, 999998, 999999, 1);
        common(1, 1000000, 1, 999999, 999998, 1, 999999);
        common(1, 1000000, 2, 999999, 499999, 1, 500000);
        common(999999, 1000000, 999998, 999999, 999998, 999998, 999999);
        common(999999, 1000000, 1, 1000000, 1, 1, 2);
        common(832040, 514229, 514229, 317811, 27, 514229, 317811);
        Edge.sets("commonAncestor with itself", Edge.NOTHING, 9, x -> x.commonAncestor(6, 0, 0), 6, 43, 30);
    }

    private static void promise15TheTargetMayBeOneOfTheOthers() {
        Edge.Calls before = Edge.registers(1, 5, 2, 5);
        Edge.sets("the target is the first", before, 2, x -> x.commonAncestor(0, 0, 1), 0, 1, 3);
        Edge.sets("the target is the second", before, 2, x -> x.commonAncestor(1, 0, 1), 1, 1, 3);
        Edge.sets("all three are one", before, 4, x -> x.commonAncestor(0, 0, 0), 0, 1, 5);
    }

    private static void refusedArgumentsComeFirst() {
        Edge.refuses("pathStep of a wrong register, far behind", BAD, x -> x.pathStep(8, MAX));
        Edge.refuses("run of a wrong register, far behind", BAD, x -> x.run(-1, MAX));
        Edge.refuses("ancestor with a wrong target, too deep", BAD, x -> x.ancestor(8, 0, 10));
        Edge.refuses("ancestor with a wrong source, too deep", BAD, x -> x.ancestor(0, 8, 1000000));
        Edge.Calls one = Edge.registers(1, 1);
        Edge.refuses("bound of 1/1 with a wrong target", one, BAD, x -> x.bound(8, 0, 0));
        Edge.refuses("bound of 1/1 with a wrong side", one, BAD, x -> x.bound(1, 0, 2));
        Edge.Calls greatest = Edge.registers(1000000, 1);
        Edge.refuses("child of 1000000/1 with a wrong target", greatest, BAD, x -> x.child(-1, 0, 1));
        Edge.refuses("child of 1000000/1 with a wrong side", greatest, BAD, x -> x.child(1, 0, -1));
    }
}
