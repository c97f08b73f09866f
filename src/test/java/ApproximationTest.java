/** Promises 22 to 26: best approximations, intervals and Farey sequences. */
final class ApproximationTest {
    private static final int BAD = SternBrocotExplorer.BAD_ARGUMENT;
    private static final int NONE = SternBrocotExplorer.NONE;
    private static final int TOO_LARGE = SternBrocotExplorer.TOO_LARGE;
    private static final int MIN = Integer.MIN_VALUE;
    private static final int MAX = Integer.MAX_VALUE;

    private ApproximationTest() {
    }

    public static void main(String[] args) {
        promise22Best();
        promise22BestErrors();
        promise23SimplestBetween();
        promise24RankedBetween();
        promise24RankedBetweenErrors();
        promise25FareyNext();
        promise26FareyCount();
        Due.end();
    }

    private static void best(SternBrocotExplorer x, int limit, int kind, int top, int bottom) {
        Due.is("best(1, 0, " + limit + ", " + kind + ")", x.best(1, 0, limit, kind), 1);
        Due.fraction(x, 1, top, bottom);
    }

    private static void promise22Best() {
        SternBrocotExplorer x = new SternBrocotExplorer();
        x.set(0, 355, 113);
        best(x, 112, 0, 333, 106);
        best(x, 112, 1, 333, 106);
        best(x, 112, 2, 22, 7);
        best(x, 105, 0, 311, 99);
        best(x, 57, 0, 179, 57);
        best(x, 56, 0, 22, 7);
        best(x, 56, 1, 157, 50);
        best(x, 1, 0, 3, 1);
        best(x, 1, 1, 3, 1);
        best(x, 1, 2, 4, 1);
        for (int kind = 0; kind <= 2; kind++) {
            best(x, 113, kind, 355, 113);
            best(x, 1000000, kind, 355, 113);
        }
        x.set(0, 5, 2);
        best(x, 1, 0, 2, 1);
        x.set(0, 3, 8);
        best(x, 2, 0, 1, 2);
        best(x, 2, 2, 1, 2);
        x.set(0, 5, 12);
        best(x, 3, 0, 1, 2);
        x.set(0, 7, 12);
        best(x, 3, 0, 1, 2);
        x.set(0, 3, 4);
        best(x, 2, 0, 1, 1);
        x.set(0, 1000000, 3);
        best(x, 2, 2, 666667, 2);
        x.set(0, 1, 1000000);
        best(x, 999999, 0, 1, 999999);
        best(x, 999999, 2, 1, 999999);
        x.set(0, 43, 30);
        Due.is("the target is the source", x.best(0, 0, 29, 0), 1);
        Due.fraction(x, 0, 33, 23);
    }

    private static void promise22BestErrors() {
        SternBrocotExplorer x = new SternBrocotExplorer();
        x.set(0, 1, 3);
        x.set(1, 9, 8);
        Due.is("0 is the nearest one", x.best(1, 0, 1, 0), NONE);
        Due.is("0 is the greatest one below", x.best(1, 0, 2, 1), NONE);
        x.set(0, 1, 2);
        Due.is("0 and 1 are equally near", x.best(1, 0, 1, 0), NONE);
        Due.fraction(x, 1, 9, 8);
        Due.is("1 is the least one above", x.best(1, 0, 1, 2), 1);
        Due.fraction(x, 1, 1, 1);
        int[][] wrong = {{-1, 0, 1, 1}, {8, 0, 1, 1}, {1, -1, 1, 1}, {1, 8, 1, 1}, {1, 0, 0, 1}, {1, 0, -1, 1},
            {1, 0, 1000001, 1}, {1, 0, 1, -1}, {1, 0, 1, 3}, {1, 0, MIN, 1}, {1, 0, MAX, 1}};
        for (int[] each : wrong) {
            Due.is("best" + java.util.Arrays.toString(each), x.best(each[0], each[1], each[2], each[3]), BAD);
        }
    }

    private static void simplest(SternBrocotExplorer x, int[] low, int[] high, int top, int bottom) {
        x.set(0, low[0], low[1]);
        x.set(1, high[0], high[1]);
        Due.is("simplestBetween for " + top + "/" + bottom, x.simplestBetween(2, 0, 1), 1);
        Due.fraction(x, 2, top, bottom);
    }

    private static void promise23SimplestBetween() {
        SternBrocotExplorer x = new SternBrocotExplorer();
        simplest(x, new int[] {5, 3}, new int[] {7, 4}, 12, 7);
        simplest(x, new int[] {1, 2}, new int[] {3, 1}, 1, 1);
        simplest(x, new int[] {1, 1}, new int[] {9, 1}, 2, 1);
        simplest(x, new int[] {1, 1}, new int[] {2, 1}, 3, 2);
        simplest(x, new int[] {1, 3}, new int[] {1, 2}, 2, 5);
        simplest(x, new int[] {1, 1000000}, new int[] {1000000, 1}, 1, 1);
        simplest(x, new int[] {314159, 100000}, new int[] {314160, 100000}, 355, 113);
        simplest(x, new int[] {999998, 1}, new int[] {1000000, 1}, 999999, 1);
        simplest(x, new int[] {1, 1000000}, new int[] {1, 999998}, 1, 999999);
        x.set(0, 1, 1000000);
        x.set(1, 1, 999999);
        Due.is("below 1/999999", x.simplestBetween(2, 0, 1), TOO_LARGE);
        x.set(3, 999999, 1);
        x.set(4, 1000000, 1);
        Due.is("above 999999", x.simplestBetween(2, 3, 4), TOO_LARGE);
        Due.is("turned", x.simplestBetween(2, 4, 3), NONE);
        Due.is("equal ones", x.simplestBetween(2, 4, 4), NONE);
        Due.fraction(x, 2, 1, 999999);
        x.set(0, 2, 3);
        x.set(1, 3, 4);
        Due.is("the target is the low end", x.simplestBetween(0, 0, 1), 1);
        Due.fraction(x, 0, 5, 7);
        Due.is("the target is the high end", x.simplestBetween(1, 0, 1), 1);
        Due.fraction(x, 1, 8, 11);
        int[][] wrong = {{-1, 0, 1}, {8, 0, 1}, {0, -1, 1}, {0, 8, 1}, {0, 1, -1}, {0, 1, 8}, {8, 1, 0}};
        for (int[] each : wrong) {
            Due.is("simplestBetween" + java.util.Arrays.toString(each),
                    x.simplestBetween(each[0], each[1], each[2]), BAD);
        }
    }

    private static void ranked(SternBrocotExplorer x, int measure, int rank, int top, int bottom) {
        Due.is("rankedBetween of rank " + rank + " by " + measure, x.rankedBetween(2, 0, 1, measure, rank), 719);
        Due.fraction(x, 2, top, bottom);
    }

    private static void promise24RankedBetween() {
        SternBrocotExplorer x = new SternBrocotExplorer();
        x.set(0, 1, 1000000);
        x.set(1, 1000000, 1);
        int[][] byDenominator = {{1, 1}, {2, 1}, {3, 1}, {1, 2}, {3, 2}, {5, 2}, {7, 2}, {1, 3}};
        int[][] bySum = {{1, 1}, {2, 1}, {1, 2}, {3, 1}, {1, 3}, {3, 2}, {2, 3}, {1, 4}};
        int[][] byDepth = {{1, 1}, {2, 1}, {1, 2}, {3, 1}, {3, 2}, {1, 3}, {2, 3}, {5, 2}};
        int[][] byGreatestTerm = {{1, 1}, {2, 1}, {1, 2}, {3, 2}, {5, 2}, {2, 3}, {5, 3}, {8, 3}};
        int[][][] all = {byDenominator, bySum, byDepth, byGreatestTerm};
        for (int measure = 0; measure < all.length; measure++) {
            for (int rank = 0; rank < all[measure].length; rank++) {
                ranked(x, measure, rank, all[measure][rank][0], all[measure][rank][1]);
            }
        }
        ranked(x, 0, 718, 95, 24);
        ranked(x, 1, 718, 95, 24);
        // The fraction with the most terms and the least denominator is [0; 1, 1, 1, 1, 1, 2].
        ranked(x, 4, 0, 13, 21);
        ranked(x, 4, 718, 3, 1);
        ranked(x, 3, 718, 73, 24);
        x.set(0, 5, 3);
        x.set(1, 7, 4);
        Due.is("the count between 5/3 and 7/4", x.rankedBetween(2, 0, 1, 0, 13), 14);
        Due.is("the ends do not count", x.compare(2, 0) == 2 && x.compare(2, 1) == 0 ? 1 : 0, 1);
        x.set(1, 1000000, 1);
        x.set(0, 3, 1);
        Due.is("the count above 3", x.rankedBetween(1, 0, 1, 0, 0), 179);
        Due.fraction(x, 1, 7, 2);
        Due.is("the target is the low end", x.rankedBetween(0, 0, 1, 0, 0), 89);
        Due.fraction(x, 0, 10, 3);
    }

    private static void promise24RankedBetweenErrors() {
        SternBrocotExplorer x = new SternBrocotExplorer();
        x.set(0, 5, 3);
        x.set(1, 7, 4);
        x.set(2, 9, 8);
        Due.is("a rank of the count", x.rankedBetween(2, 0, 1, 0, 14), NONE);
        Due.is("the greatest rank", x.rankedBetween(2, 0, 1, 4, MAX), NONE);
        Due.is("turned", x.rankedBetween(2, 1, 0, 0, 0), NONE);
        Due.is("equal ones", x.rankedBetween(2, 1, 1, 0, 0), NONE);
        x.set(3, 4, 1);
        x.set(4, 9, 1);
        Due.is("above 4", x.rankedBetween(2, 3, 4, 0, 0), NONE);
        x.set(3, 1, 1000000);
        x.set(4, 1, 24);
        Due.is("below 1/24", x.rankedBetween(2, 3, 4, 0, 0), NONE);
        Due.fraction(x, 2, 9, 8);
        int[][] wrong = {{-1, 0, 1, 0, 0}, {8, 0, 1, 0, 0}, {2, -1, 1, 0, 0}, {2, 8, 1, 0, 0}, {2, 0, -1, 0, 0},
            {2, 0, 8, 0, 0}, {2, 0, 1, -1, 0}, {2, 0, 1, 5, 0}, {2, 0, 1, 0, -1}, {2, 0, 1, 0, MIN},
            {2, 1, 0, 5, 0}, {2, 1, 0, 0, -1}};
        for (int[] each : wrong) {
            Due.is("rankedBetween" + java.util.Arrays.toString(each),
                    x.rankedBetween(each[0], each[1], each[2], each[3], each[4]), BAD);
        }
    }

    private static void farey(SternBrocotExplorer x, int order, int top, int bottom) {
        Due.is("fareyNext(1, 0, " + order + ")", x.fareyNext(1, 0, order), 1);
        Due.fraction(x, 1, top, bottom);
    }

    private static void promise25FareyNext() {
        SternBrocotExplorer x = new SternBrocotExplorer();
        x.set(0, 1, 3);
        farey(x, 3, 1, 2);
        farey(x, 5, 2, 5);
        farey(x, 8, 3, 8);
        farey(x, 1, 1, 1);
        farey(x, 1000, 333, 998);
        x.set(0, 5, 3);
        farey(x, 4, 7, 4);
        farey(x, 2, 2, 1);
        x.set(0, 1, 1);
        farey(x, 1, 2, 1);
        farey(x, 1000, 1001, 1000);
        x.set(0, 1, 1000000);
        farey(x, 1000, 1, 1000);
        x.set(0, 999999, 1000000);
        farey(x, 1000, 1, 1);
        x.set(0, 999999, 1);
        farey(x, 1, 1000000, 1);
        Due.is("above 999999 by halves", x.fareyNext(1, 0, 2), TOO_LARGE);
        x.set(0, 1000000, 1);
        Due.is("above 1000000", x.fareyNext(1, 0, 1), TOO_LARGE);
        x.set(0, 1000000, 3);
        Due.is("above 1000000/3", x.fareyNext(1, 0, 3), 1);
        Due.fraction(x, 1, 666667, 2);
        Due.is("above 1000000/3 by fifths", x.fareyNext(1, 0, 5), TOO_LARGE);
        Due.fraction(x, 1, 666667, 2);
        x.set(0, 2, 3);
        Due.is("the target is the source", x.fareyNext(0, 0, 7), 1);
        Due.fraction(x, 0, 5, 7);
        int[][] wrong = {{-1, 0, 1}, {8, 0, 1}, {0, -1, 1}, {0, 8, 1}, {0, 0, 0}, {0, 0, 1001}, {0, 0, -1},
            {0, 0, MIN}, {0, 0, MAX}};
        for (int[] each : wrong) {
            Due.is("fareyNext" + java.util.Arrays.toString(each), x.fareyNext(each[0], each[1], each[2]), BAD);
        }
    }

    private static void promise26FareyCount() {
        SternBrocotExplorer x = new SternBrocotExplorer();
        int[][] counts = {{1, 1}, {2, 2}, {3, 4}, {4, 6}, {5, 10}, {8, 22}, {24, 180}, {100, 3044}, {1000, 304192}};
        for (int[] each : counts) {
            Due.is("fareyCount(" + each[0] + ")", x.fareyCount(each[0]), each[1]);
        }
        for (int order : new int[] {0, -1, 1001, MIN, MAX}) {
            Due.is("fareyCount(" + order + ")", x.fareyCount(order), BAD);
        }
    }
}
