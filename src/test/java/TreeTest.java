/** Promises 8 to 15: depths, paths, runs, ancestors, bounds and children. */
final class TreeTest {
    private static final int BAD = SternBrocotExplorer.BAD_ARGUMENT;
    private static final int NONE = SternBrocotExplorer.NONE;
    private static final int TOO_LARGE = SternBrocotExplorer.TOO_LARGE;
    private static final int MIN = Integer.MIN_VALUE;
    private static final int MAX = Integer.MAX_VALUE;

    private TreeTest() {
    }

    public static void main(String[] args) {
        promise8Depth();
        promise9PathStep();
        promise10RunCount();
        promise11Run();
        promise12Ancestor();
        promise13Bound();
        promise14Child();
        promise15CommonAncestor();
        Due.end();
    }

    private static void promise8Depth() {
        SternBrocotExplorer x = new SternBrocotExplorer();
        int[][] depths = {{1, 1, 0}, {2, 1, 1}, {1, 2, 1}, {3, 2, 2}, {43, 30, 9}, {1000000, 1, 999999},
            {1, 1000000, 999999}, {999999, 1000000, 999999}, {832040, 514229, 28}, {514229, 832040, 28}};
        for (int[] each : depths) {
            x.set(0, each[0], each[1]);
            Due.is("depth of " + each[0] + "/" + each[1], x.depth(0), each[2]);
        }
        Due.is("depth(-1)", x.depth(-1), BAD);
        Due.is("depth(8)", x.depth(8), BAD);
    }

    private static void promise9PathStep() {
        SternBrocotExplorer x = new SternBrocotExplorer();
        Due.is("pathStep of 1/1", x.pathStep(0, 0), NONE);
        x.set(0, 43, 30);
        int[] steps = {1, 0, 0, 1, 1, 1, 0, 0, 0, NONE, NONE};
        for (int i = 0; i < steps.length; i++) {
            Due.is("pathStep(43/30, " + i + ")", x.pathStep(0, i), steps[i]);
        }
        Due.is("pathStep(43/30, MAX)", x.pathStep(0, MAX), NONE);
        x.set(0, 1, 1000000);
        Due.is("pathStep(1/1000000, 0)", x.pathStep(0, 0), 0);
        Due.is("pathStep(1/1000000, 999998)", x.pathStep(0, 999998), 0);
        Due.is("pathStep(1/1000000, 999999)", x.pathStep(0, 999999), NONE);
        x.set(0, 999999, 1000000);
        Due.is("pathStep(999999/1000000, 0)", x.pathStep(0, 0), 0);
        Due.is("pathStep(999999/1000000, 1)", x.pathStep(0, 1), 1);
        Due.is("pathStep(0, -1)", x.pathStep(0, -1), BAD);
        Due.is("pathStep(0, MIN)", x.pathStep(0, MIN), BAD);
        Due.is("pathStep(8, 0)", x.pathStep(8, 0), BAD);
        Due.is("pathStep(-1, 2000000)", x.pathStep(-1, 2000000), BAD);
    }

    private static void promise10RunCount() {
        SternBrocotExplorer x = new SternBrocotExplorer();
        int[][] counts = {{1, 1, 0}, {2, 1, 1}, {1, 2, 1}, {3, 2, 2}, {2, 3, 2}, {43, 30, 4}, {30, 43, 4},
            {1000000, 1, 1}, {832040, 514229, 28}};
        for (int[] each : counts) {
            x.set(0, each[0], each[1]);
            Due.is("runCount of " + each[0] + "/" + each[1], x.runCount(0), each[2]);
        }
        Due.is("runCount(-1)", x.runCount(-1), BAD);
        Due.is("runCount(8)", x.runCount(8), BAD);
    }

    private static void promise11Run() {
        SternBrocotExplorer x = new SternBrocotExplorer();
        Due.is("run of 1/1", x.run(0, 0), NONE);
        int[] lengths = {1, 2, 3, 3, NONE, NONE};
        for (int i = 0; i < lengths.length; i++) {
            x.set(0, 43, 30);
            Due.is("run(43/30, " + i + ")", x.run(0, i), lengths[i]);
            x.set(0, 30, 43);
            Due.is("run(30/43, " + i + ")", x.run(0, i), lengths[i]);
        }
        x.set(0, 1, 2);
        Due.is("run(1/2, 0)", x.run(0, 0), 1);
        Due.is("run(1/2, 1)", x.run(0, 1), NONE);
        x.set(0, 1000000, 1);
        Due.is("run(1000000/1, 0)", x.run(0, 0), 999999);
        Due.is("run(0, MAX)", x.run(0, MAX), NONE);
        Due.is("run(0, -1)", x.run(0, -1), BAD);
        Due.is("run(8, 0)", x.run(8, 0), BAD);
        Due.is("run(-1, 99)", x.run(-1, 99), BAD);
    }

    private static void promise12Ancestor() {
        SternBrocotExplorer x = new SternBrocotExplorer();
        x.set(0, 43, 30);
        int[][] path = {{1, 1}, {2, 1}, {3, 2}, {4, 3}, {7, 5}, {10, 7}, {13, 9}, {23, 16}, {33, 23}, {43, 30}};
        for (int depth = 0; depth < path.length; depth++) {
            Due.is("ancestor(1, 43/30, " + depth + ")", x.ancestor(1, 0, depth), 1);
            Due.fraction(x, 1, path[depth][0], path[depth][1]);
        }
        Due.is("one step deeper", x.ancestor(1, 0, 10), NONE);
        Due.is("ancestor(1, 0, MAX)", x.ancestor(1, 0, MAX), NONE);
        Due.fraction(x, 1, 43, 30);
        x.set(2, 2, 7);
        Due.is("ancestor(1, 2/7, 0)", x.ancestor(1, 2, 0), 1);
        Due.fraction(x, 1, 1, 1);
        Due.is("the target is the source", x.ancestor(2, 2, 3), 1);
        Due.fraction(x, 2, 1, 4);
        x.set(2, 1000000, 1);
        Due.is("ancestor(3, 1000000/1, 999998)", x.ancestor(3, 2, 999998), 1);
        Due.fraction(x, 3, 999999, 1);
        int[][] wrong = {{-1, 0, 0}, {8, 0, 0}, {0, -1, 0}, {0, 8, 99}, {1, 0, -1}, {1, 0, MIN}};
        for (int[] each : wrong) {
            Due.is("ancestor" + java.util.Arrays.toString(each), x.ancestor(each[0], each[1], each[2]), BAD);
        }
        Due.fraction(x, 0, 43, 30);
    }

    private static void promise13Bound() {
        SternBrocotExplorer x = new SternBrocotExplorer();
        x.set(0, 43, 30);
        Due.is("the left bound", x.bound(1, 0, 0), 1);
        Due.fraction(x, 1, 10, 7);
        Due.is("the right bound", x.bound(1, 0, 1), 1);
        Due.fraction(x, 1, 33, 23);
        Due.is("the target is the source", x.bound(0, 0, 1), 1);
        Due.fraction(x, 0, 33, 23);
        Due.is("the left bound of 1/1", x.bound(1, 2, 0), NONE);
        Due.is("the right bound of 1/1", x.bound(1, 2, 1), NONE);
        x.set(2, 1, 9);
        Due.is("the left bound of 1/9", x.bound(1, 2, 0), NONE);
        Due.fraction(x, 1, 33, 23);
        Due.is("the right bound of 1/9", x.bound(1, 2, 1), 1);
        Due.fraction(x, 1, 1, 8);
        x.set(2, 9, 1);
        Due.is("the right bound of 9/1", x.bound(1, 2, 1), NONE);
        Due.is("the left bound of 9/1", x.bound(1, 2, 0), 1);
        Due.fraction(x, 1, 8, 1);
        x.set(2, 2, 1);
        Due.is("the left bound of 2/1", x.bound(1, 2, 0), 1);
        Due.fraction(x, 1, 1, 1);
        int[][] wrong = {{-1, 2, 1}, {8, 2, 1}, {1, -1, 1}, {1, 8, 1}, {1, 2, -1}, {1, 2, 2}, {1, 2, MIN}};
        for (int[] each : wrong) {
            Due.is("bound" + java.util.Arrays.toString(each), x.bound(each[0], each[1], each[2]), BAD);
        }
    }

    private static void promise14Child() {
        SternBrocotExplorer x = new SternBrocotExplorer();
        x.set(0, 43, 30);
        Due.is("the left child", x.child(1, 0, 0), 1);
        Due.fraction(x, 1, 53, 37);
        Due.is("the right child", x.child(1, 0, 1), 1);
        Due.fraction(x, 1, 76, 53);
        Due.is("the left child of 1/1", x.child(2, 3, 0), 1);
        Due.fraction(x, 2, 1, 2);
        Due.is("the target is the source", x.child(3, 3, 1), 1);
        Due.fraction(x, 3, 2, 1);
        x.set(4, 999999, 1);
        Due.is("the right child of 999999/1", x.child(5, 4, 1), 1);
        Due.fraction(x, 5, 1000000, 1);
        Due.is("the right child of 1000000/1", x.child(1, 5, 1), TOO_LARGE);
        Due.is("the left child of 1000000/1", x.child(1, 5, 0), TOO_LARGE);
        x.set(5, 1, 1000000);
        Due.is("the left child of 1/1000000", x.child(1, 5, 0), TOO_LARGE);
        Due.is("the right child of 1/1000000", x.child(1, 5, 1), TOO_LARGE);
        Due.fraction(x, 1, 76, 53);
        int[][] wrong = {{-1, 5, 1}, {8, 5, 1}, {1, -1, 1}, {1, 8, 1}, {1, 5, -1}, {1, 5, 2}, {1, 5, MAX}};
        for (int[] each : wrong) {
            Due.is("child" + java.util.Arrays.toString(each), x.child(each[0], each[1], each[2]), BAD);
        }
    }

    private static void promise15CommonAncestor() {
        SternBrocotExplorer x = new SternBrocotExplorer();
        x.set(0, 43, 30);
        x.set(1, 33, 23);
        Due.is("an ancestor of the other", x.commonAncestor(2, 0, 1), 8);
        Due.fraction(x, 2, 33, 23);
        Due.is("the other way around", x.commonAncestor(2, 1, 0), 8);
        Due.fraction(x, 2, 33, 23);
        x.set(1, 17, 12);
        Due.is("apart within a run", x.commonAncestor(2, 0, 1), 5);
        Due.fraction(x, 2, 10, 7);
        x.set(1, 1, 5);
        Due.is("apart at the root", x.commonAncestor(2, 0, 1), 0);
        Due.fraction(x, 2, 1, 1);
        x.set(3, 2, 5);
        Due.is("1/5 and 2/5", x.commonAncestor(2, 1, 3), 2);
        Due.fraction(x, 2, 1, 3);
        Due.is("the root itself", x.commonAncestor(2, 4, 3), 0);
        Due.fraction(x, 2, 1, 1);
        Due.is("the same register", x.commonAncestor(2, 0, 0), 9);
        Due.fraction(x, 2, 43, 30);
        Due.is("the target is the second one", x.commonAncestor(3, 1, 3), 2);
        Due.fraction(x, 3, 1, 3);
        x.set(5, 1000000, 1);
        x.set(6, 999999, 1);
        Due.is("the target is the first one", x.commonAncestor(5, 5, 6), 999998);
        Due.fraction(x, 5, 999999, 1);
        int[][] wrong = {{-1, 0, 0}, {8, 0, 0}, {0, -1, 0}, {0, 8, 0}, {0, 0, -1}, {0, 0, 8}, {MIN, MAX, 0}};
        for (int[] each : wrong) {
            Due.is("commonAncestor" + java.util.Arrays.toString(each),
                    x.commonAncestor(each[0], each[1], each[2]), BAD);
        }
        Due.fraction(x, 0, 43, 30);
    }
}
