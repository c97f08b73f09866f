/** Promises 22 to 26 at their boundaries: approximations, intervals and Farey sequences. */
final class ApproximationEdgeTest {
    private static final int BAD = -1;
    private static final int NONE = -2;
    private static final int TOO_LARGE = -3;
    private static final int MIN = Integer.MIN_VALUE;
    private static final int MAX = Integer.MAX_VALUE;

    private ApproximationEdgeTest() {
    }

    public static void main(String[] args) {
        promise22TheEndsOfTheLimit();
        promise22TheLimitAtTheDenominator();
        promise22EquallyNearOnes();
        promise22OnesThatAreAlmostEquallyNear();
        promise22AnApproximationOfZero();
        promise22GreatNumerators();
        promise22TheTargetMayBeTheSource();
        promise23TheEndsAreExcluded();
        promise23IntervalsThatAreEmpty();
        promise23TheSmallestNumerator();
        promise23TheGreatestNumbers();
        promise23NumbersThatAreTooLarge();
        promise23TheTargetMayBeOneOfTheOthers();
        promise24TheEndsAreExcluded();
        promise24LessThanFour();
        promise24DenominatorsUpTo24();
        promise24TheFirstAndTheLastRank();
        promise24EqualMeasures();
        promise24TheTargetMayBeOneOfTheOthers();
        promise25TheEndsOfTheOrder();
        promise25TheOrderAtTheDenominator();
        promise25TheGreatestNumerators();
        promise25TheTargetMayBeTheSource();
        promise26TheEndsOfTheOrder();
        Due.end();
    }

    /** Register 6 is set to the approximation, or stays if the numerator is an error code. */
    private static void best(int p, int q, int limit, int kind, int top, int bottom) {
        String told = "best of " + p + "/" + q + " up to " + limit + " of kind " + kind;
        Edge.Calls before = Edge.registers(p, q);
        if (top < 0) {
            Edge.refuses(told, before, top, x -> x.best(6, 0, limit, kind));
        } else {
            Edge.sets(told, before, 1, x -> x.best(6, 0, limit, kind), 6, top, bottom);
        }
    }

    private static void promise22TheEndsOfTheLimit() {
        for (int kind = 0; kind <= 2; kind++) {
            for (int limit : new int[] {0, -1, 1000001, MIN, MAX}) {
                best(43, 30, limit, kind, BAD, 0);
                best(1, 3, limit, kind, BAD, 0);
            }
            best(43, 30, 1, kind, kind == 2 ? 2 : 1, 1);
            best(43, 30, 2, kind, kind == 1 ? 1 : 3, kind == 1 ? 1 : 2);
            best(43, 30, 999999, kind, 43, 30);
            best(43, 30, 1000000, kind, 43, 30);
            best(7, 1, 1, kind, 7, 1);
            best(1, 1, 1, kind, 1, 1);
            best(1000000, 1, 1, kind, 1000000, 1);
            best(999999, 1000000, 1000000, kind, 999999, 1000000);
            best(1, 1000000, 1000000, kind, 1, 1000000);
        }
    }

    private static void promise22TheLimitAtTheDenominator() {
        for (int kind = 0; kind <= 2; kind++) {
            best(355, 113, 113, kind, 355, 113);
            best(355, 113, 114, kind, 355, 113);
            best(355, 113, 112, kind, kind == 2 ? 22 : 333, kind == 2 ? 7 : 106);
            best(1, 3, 3, kind, 1, 3);
            best(1, 3, 4, kind, 1, 3);
        }
        // The limit at the denominators of a convergent, and of the mediants on the way to one.
        best(355, 113, 106, 1, 333, 106);
        best(355, 113, 105, 1, 311, 99);
        best(355, 113, 99, 1, 311, 99);
        best(355, 113, 98, 1, 289, 92);
        best(355, 113, 8, 1, 25, 8);
        best(355, 113, 7, 1, 3, 1);
        best(355, 113, 7, 2, 22, 7);
        best(355, 113, 6, 2, 19, 6);
        best(355, 113, 57, 0, 179, 57);
        best(355, 113, 56, 0, 22, 7);
        best(999999, 1000000, 999999, 0, 999998, 999999);
        best(999999, 1000000, 999999, 1, 999998, 999999);
        best(999999, 1000000, 999999, 2, 1, 1);
        best(514229, 832040, 832039, 0, 317811, 514229);
        best(514229, 832040, 514229, 0, 317811, 514229);
        best(514229, 832040, 514228, 0, 196418, 317811);
        best(1000000, 999999, 999998, 0, 999999, 999998);
        best(1000000, 999999, 999998, 1, 1, 1);
        best(1000000, 999999, 999998, 2, 999999, 999998);
    }

    private static void promise22EquallyNearOnes() {
        // The smaller denominator is taken, whether that number is the smaller one or not.
        best(3, 4, 2, 0, 1, 1);
        best(7, 4, 2, 0, 2, 1);
        best(5, 4, 2, 0, 1, 1);
        best(5, 12, 3, 0, 1, 2);
        best(7, 12, 3, 0, 1, 2);
        best(17, 24, 4, 0, 2, 3);
        // The denominators are equal, too.
        best(5, 2, 1, 0, 2, 1);
        best(3, 2, 1, 0, 1, 1);
        best(999999, 2, 1, 0, 499999, 1);
    }

    private static void promise22OnesThatAreAlmostEquallyNear() {
        best(749999, 1000000, 2, 0, 1, 2);
        best(750001, 1000000, 2, 0, 1, 1);
        best(416667, 1000000, 3, 0, 1, 2);
        best(416666, 1000000, 3, 0, 1, 3);
        best(499999, 200000, 1, 0, 2, 1);
        best(500001, 200000, 1, 0, 3, 1);
        best(499999, 1000000, 1, 0, NONE, 0);
        best(500001, 1000000, 1, 0, 1, 1);
        best(249999, 1000000, 2, 0, NONE, 0);
        best(250001, 1000000, 2, 0, 1, 2);
    }

    private static void promise22AnApproximationOfZero() {
        best(1, 3, 1, 0, NONE, 0);
        best(1, 3, 2, 0, 1, 2);
        best(1, 4, 2, 0, NONE, 0);
        best(1, 2, 1, 0, NONE, 0);
        best(1, 2, 1, 1, NONE, 0);
        best(1, 2, 1, 2, 1, 1);
        best(2, 3, 1, 0, 1, 1);
        best(2, 3, 1, 1, NONE, 0);
        best(2, 5, 2, 1, NONE, 0);
        best(2, 5, 3, 1, 1, 3);
        best(1, 3, 2, 1, NONE, 0);
        best(1, 3, 3, 1, 1, 3);
        best(1, 3, 2, 2, 1, 2);
        best(999999, 1000000, 1, 1, NONE, 0);
        best(999999, 1000000, 2, 1, 1, 2);
        best(1, 1000000, 999999, 0, 1, 999999);
        best(1, 1000000, 999999, 1, NONE, 0);
        best(1, 1000000, 999999, 2, 1, 999999);
        best(1, 1000000, 500001, 0, 1, 500001);
        best(1, 1000000, 500000, 0, NONE, 0);
        best(1, 1000000, 1, 0, NONE, 0);
        best(1, 1000000, 1, 2, 1, 1);
        Edge.refuses("a wrong target and 0", Edge.registers(1, 3), BAD, x -> x.best(8, 0, 1, 1));
        Edge.refuses("a wrong limit and 0", Edge.registers(1, 3), BAD, x -> x.best(6, 0, 0, 1));
        Edge.refuses("a wrong kind and 0", Edge.registers(1, 3), BAD, x -> x.best(6, 0, 1, 3));
        Edge.refuses("0 onto the source", Edge.registers(1, 3), NONE, x -> x.best(0, 0, 1, 0));
    }

    private static void promise22GreatNumerators() {
        best(1000000, 3, 2, 0, 666667, 2);
        best(1000000, 3, 2, 2, 666667, 2);
        best(1000000, 3, 2, 1, 333333, 1);
        best(1000000, 3, 3, 0, 1000000, 3);
        best(999999, 2, 1, 2, 500000, 1);
        best(999998, 999999, 999998, 1, 999997, 999998);
        best(832040, 514229, 514228, 0, 514229, 317811);
    }

    private static void promise22TheTargetMayBeTheSource() {
        Edge.sets("best onto its source", Edge.NOTHING, 1, x -> x.best(0, 0, 29, 1), 0, 10, 7);
        Edge.sets("best onto its source, unchanged", Edge.NOTHING, 1, x -> x.best(0, 0, 30, 1), 0, 43, 30);
    }

    private static void simplest(int a, int b, int c, int d, int top, int bottom) {
        String told = "simplestBetween " + a + "/" + b + " and " + c + "/" + d;
        Edge.Calls before = Edge.registers(a, b, c, d);
        if (top < 0) {
            Edge.refuses(told, before, top, x -> x.simplestBetween(6, 0, 1));
        } else {
            Edge.sets(told, before, 1, x -> x.simplestBetween(6, 0, 1), 6, top, bottom);
        }
    }

    private static void promise23TheEndsAreExcluded() {
        simplest(1, 1, 2, 1, 3, 2);
        simplest(1, 1, 1000000, 999999, TOO_LARGE, 0);
        simplest(1, 1, 3, 1, 2, 1);
        simplest(999999, 1000000, 2, 1, 1, 1);
        simplest(999999, 1000000, 1000000, 999999, 1, 1);
        simplest(1, 2, 1, 1, 2, 3);
        simplest(1, 3, 1, 1, 1, 2);
        simplest(1, 3, 1, 2, 2, 5);
        simplest(999999, 1000000, 1, 1, TOO_LARGE, 0);
        simplest(5, 3, 7, 4, 12, 7);
        simplest(12, 7, 7, 4, 19, 11);
        simplest(5, 3, 12, 7, 17, 10);
        simplest(9, 4, 16, 7, 25, 11);
    }

    private static void promise23IntervalsThatAreEmpty() {
        simplest(1, 1, 1, 1, NONE, 0);
        simplest(2, 3, 4, 6, NONE, 0);
        simplest(7, 4, 5, 3, NONE, 0);
        simplest(2, 1, 1, 1, NONE, 0);
        simplest(1000000, 1, 1, 1000000, NONE, 0);
        simplest(1000000, 1, 999999, 1, NONE, 0);
        simplest(1000000, 1, 1000000, 1, NONE, 0);
        simplest(999999, 1000000, 999998, 999999, NONE, 0);
        Edge.refuses("simplestBetween one register", NONE, x -> x.simplestBetween(6, 0, 0));
        Edge.refuses("a wrong target and an empty interval", BAD, x -> x.simplestBetween(8, 0, 0));
        Edge.refuses("a wrong low and an empty interval", BAD, x -> x.simplestBetween(0, -1, 0));
        Edge.refuses("a wrong high and an empty interval", BAD, x -> x.simplestBetween(0, 0, 8));
        Edge.refuses("a wrong target and a number too large", Edge.registers(999999, 1, 1000000, 1), BAD,
                x -> x.simplestBetween(-1, 0, 1));
    }

    private static void promise23TheSmallestNumerator() {
        simplest(1, 1, 9, 1, 2, 1);
        simplest(1, 2, 9, 1, 1, 1);
        simplest(9, 2, 20, 1, 5, 1);
        simplest(5, 1, 20, 1, 6, 1);
        simplest(1, 1000000, 1000000, 1, 1, 1);
        simplest(10, 3, 4, 1, 7, 2);
    }

    private static void promise23TheGreatestNumbers() {
        simplest(999998, 1, 1000000, 1, 999999, 1);
        simplest(499999, 1, 500000, 1, 999999, 2);
        simplest(1, 500000, 1, 499999, 2, 999999);
        simplest(333333, 1, 666667, 2, 1000000, 3);
        simplest(2, 666667, 1, 333333, 3, 1000000);
        simplest(1, 1000000, 1, 999998, 1, 999999);
        simplest(999998, 999999, 1, 1, 999999, 1000000);
        simplest(1, 1, 999999, 999998, 1000000, 999999);
    }

    private static void promise23NumbersThatAreTooLarge() {
        simplest(999999, 1, 1000000, 1, TOO_LARGE, 0);
        simplest(500000, 1, 500001, 1, TOO_LARGE, 0);
        simplest(1, 500001, 1, 500000, TOO_LARGE, 0);
        simplest(1, 1000000, 1, 999999, TOO_LARGE, 0);
        simplest(999998, 999999, 999999, 1000000, TOO_LARGE, 0);
    }

    private static void promise23TheTargetMayBeOneOfTheOthers() {
        Edge.Calls before = Edge.registers(2, 3, 3, 4);
        Edge.sets("the target is the low end", before, 1, x -> x.simplestBetween(0, 0, 1), 0, 5, 7);
        Edge.sets("the target is the high end", before, 1, x -> x.simplestBetween(1, 0, 1), 1, 5, 7);
        Edge.refuses("the target is both ends", before, NONE, x -> x.simplestBetween(0, 0, 0));
    }

    private static void ranked(int a, int b, int c, int d, int measure, int rank, int due, int top, int bottom) {
        String told = "rankedBetween " + a + "/" + b + " and " + c + "/" + d + " by " + measure + ", rank " + rank;
        Edge.Calls before = Edge.registers(a, b, c, d);
        if (due < 0) {
            Edge.refuses(told, before, due, x -> x.rankedBetween(6, 0, 1, measure, rank));
        } else {
            Edge.sets(told, before, due, x -> x.rankedBetween(6, 0, 1, measure, rank), 6, top, bottom);
        }
    }

    private static void promise24TheEndsAreExcluded() {
        ranked(1, 2, 2, 3, 0, 0, 29, 3, 5);
        ranked(1, 24, 2, 23, 0, 0, 12, 1, 12);
        ranked(1, 24, 2, 23, 0, 11, 12, 1, 23);
        ranked(1, 25, 1, 23, 0, 0, 1, 1, 24);
        ranked(1, 24, 1, 23, 0, 0, NONE, 0, 0);
        ranked(1, 1, 1, 1, 0, 0, NONE, 0, 0);
        ranked(2, 1, 1, 1, 0, 0, NONE, 0, 0);
        ranked(7, 4, 5, 3, 0, 0, NONE, 0, 0);
        ranked(999999, 1000000, 1000000, 999999, 0, 0, 1, 1, 1);
        ranked(999999, 1000000, 1, 1, 0, 0, NONE, 0, 0);
        ranked(1, 1, 1000000, 999999, 0, 0, NONE, 0, 0);
    }

    private static void promise24LessThanFour() {
        ranked(3, 1, 4, 1, 0, 0, 179, 7, 2);
        ranked(3, 1, 5, 1, 0, 0, 179, 7, 2);
        ranked(3, 1, 1000000, 1, 0, 178, 179, 95, 24);
        ranked(4, 1, 5, 1, 0, 0, NONE, 0, 0);
        ranked(95, 24, 1000000, 1, 0, 0, NONE, 0, 0);
        ranked(94, 24, 1000000, 1, 0, 0, 12, 51, 13);
        ranked(94, 24, 1000000, 1, 0, 11, 12, 95, 24);
        ranked(91, 23, 4, 1, 0, 0, 1, 95, 24);
        ranked(91, 23, 95, 24, 0, 0, NONE, 0, 0);
    }

    private static void promise24DenominatorsUpTo24() {
        ranked(1, 1000000, 1, 24, 0, 0, NONE, 0, 0);
        ranked(1, 26, 1, 24, 0, 0, NONE, 0, 0);
        ranked(1, 1000000, 1, 23, 0, 0, 1, 1, 24);
        ranked(1, 1000000, 1, 22, 0, 0, 2, 1, 23);
        ranked(1, 1000000, 1, 22, 0, 1, 2, 1, 24);
        ranked(23, 24, 1, 1, 0, 0, NONE, 0, 0);
        ranked(22, 23, 1, 1, 0, 0, 1, 23, 24);
    }

    private static void promise24TheFirstAndTheLastRank() {
        int[][] first = {{1, 1}, {1, 1}, {1, 1}, {1, 1}, {13, 21}};
        int[][] second = {{2, 1}, {2, 1}, {2, 1}, {2, 1}, {34, 21}};
        int[][] last = {{95, 24}, {95, 24}, {95, 24}, {73, 24}, {3, 1}};
        int[][] lastButOne = {{91, 24}, {91, 24}, {73, 24}, {49, 24}, {2, 1}};
        for (int m = 0; m <= 4; m++) {
            ranked(1, 1000000, 1000000, 1, m, -1, BAD, 0, 0);
            ranked(1, 1000000, 1000000, 1, m, MIN, BAD, 0, 0);
            ranked(1, 1000000, 1000000, 1, m, 0, 719, first[m][0], first[m][1]);
            ranked(1, 1000000, 1000000, 1, m, 1, 719, second[m][0], second[m][1]);
            ranked(1, 1000000, 1000000, 1, m, 717, 719, lastButOne[m][0], lastButOne[m][1]);
            ranked(1, 1000000, 1000000, 1, m, 718, 719, last[m][0], last[m][1]);
            ranked(1, 1000000, 1000000, 1, m, 719, NONE, 0, 0);
            ranked(1, 1000000, 1000000, 1, m, 720, NONE, 0, 0);
            ranked(1, 1000000, 1000000, 1, m, MAX, NONE, 0, 0);
            ranked(5, 3, 7, 4, m, 14, NONE, 0, 0);
            ranked(7, 4, 5, 3, m, 0, NONE, 0, 0);
            ranked(7, 4, 5, 3, m, -1, BAD, 0, 0);
        }
        ranked(5, 3, 7, 4, 0, 0, 14, 12, 7);
        ranked(5, 3, 7, 4, 0, 13, 14, 41, 24);
        Edge.refuses("a wrong target and no such rank", BAD, x -> x.rankedBetween(8, 3, 4, 0, 719));
        Edge.refuses("a wrong low and no such rank", BAD, x -> x.rankedBetween(0, 8, 4, 0, 719));
        Edge.refuses("a wrong high and no such rank", BAD, x -> x.rankedBetween(0, 3, -1, 0, 719));
        Edge.refuses("a wrong measure and no such rank", BAD, x -> x.rankedBetween(0, 3, 4, 5, 719));
    }

    private static void promise24EqualMeasures() {
        // The denominator 3; the sum 5 and the first one of 6; the depth 2; the greatest term 3; six terms.
        int[] from = {7, 5, 3, 62, 4};
        int[][][] due = {{{1, 3}, {2, 3}, {4, 3}, {5, 3}}, {{3, 2}, {2, 3}, {1, 4}, {1, 5}},
            {{3, 1}, {3, 2}, {1, 3}, {2, 3}}, {{3, 1}, {7, 2}, {1, 3}, {4, 3}},
            {{8, 13}, {21, 13}, {34, 13}, {47, 13}}};
        for (int measure = 0; measure <= 4; measure++) {
            for (int i = 0; i < 4; i++) {
                int[] each = due[measure][i];
                ranked(1, 1000000, 1000000, 1, measure, from[measure] + i, 719, each[0], each[1]);
            }
        }
    }

    private static void promise24TheTargetMayBeOneOfTheOthers() {
        Edge.Calls before = Edge.registers(5, 3, 7, 4);
        Edge.sets("the target is the low end", before, 14, x -> x.rankedBetween(0, 0, 1, 0, 0), 0, 12, 7);
        Edge.sets("the target is the high end", before, 14, x -> x.rankedBetween(1, 0, 1, 0, 0), 1, 12, 7);
        Edge.refuses("the target is both ends", before, NONE, x -> x.rankedBetween(0, 0, 0, 0, 0));
    }

    private static void farey(int p, int q, int order, int top, int bottom) {
        String told = "fareyNext of " + p + "/" + q + " of order " + order;
        Edge.Calls before = Edge.registers(p, q);
        if (top < 0) {
            Edge.refuses(told, before, top, x -> x.fareyNext(6, 0, order));
        } else {
            Edge.sets(told, before, 1, x -> x.fareyNext(6, 0, order), 6, top, bottom);
        }
    }

    private static void promise25TheEndsOfTheOrder() {
        for (int order : new int[] {0, -1, 1001, 1002, MIN, MAX}) {
            farey(43, 30, order, BAD, 0);
            farey(1000000, 1, order, BAD, 0);
        }
        farey(43, 30, 1, 2, 1);
        farey(43, 30, 2, 3, 2);
        farey(1, 1, 1, 2, 1);
        farey(1, 1, 2, 3, 2);
        farey(1, 1, 999, 1000, 999);
        farey(1, 1, 1000, 1001, 1000);
        farey(1, 1000000, 1, 1, 1);
        farey(1, 1000000, 999, 1, 999);
        farey(1, 1000000, 1000, 1, 1000);
        farey(999999, 1000000, 1, 1, 1);
        farey(999999, 1000000, 1000, 1, 1);
        farey(1, 3, 999, 333, 998);
        farey(1, 3, 1000, 333, 998);
        Edge.refuses("a wrong target and a large numerator", Edge.registers(1000000, 1), BAD,
                x -> x.fareyNext(8, 0, 1));
    }

    private static void promise25TheOrderAtTheDenominator() {
        // The source itself is not greater, though its denominator is one of those.
        farey(1, 3, 2, 1, 2);
        farey(1, 3, 3, 1, 2);
        farey(1, 3, 4, 1, 2);
        farey(1, 3, 5, 2, 5);
        farey(1, 1000, 999, 1, 999);
        farey(1, 1000, 1000, 1, 999);
        farey(999, 1000, 1000, 1, 1);
        farey(1, 1001, 1000, 1, 1000);
        farey(998, 999, 1000, 999, 1000);
        farey(998, 999, 999, 1, 1);
        farey(998, 999, 998, 1, 1);
        farey(1000, 999, 998, 999, 998);
        farey(1000, 999, 999, 999, 998);
        farey(5, 3, 3, 2, 1);
        farey(5, 3, 4, 7, 4);
    }

    private static void promise25TheGreatestNumerators() {
        farey(999998, 1, 1, 999999, 1);
        farey(999999, 1, 1, 1000000, 1);
        farey(1000000, 1, 1, TOO_LARGE, 0);
        farey(499999, 1, 2, 999999, 2);
        farey(500000, 1, 2, TOO_LARGE, 0);
        farey(333333, 1, 3, 1000000, 3);
        farey(333334, 1, 3, TOO_LARGE, 0);
        farey(1000000, 3, 3, 666667, 2);
        farey(1000000, 3, 2, 666667, 2);
        farey(1000000, 3, 5, TOO_LARGE, 0);
        farey(999999, 2, 1, 500000, 1);
        farey(999, 1, 1000, 999001, 1000);
        farey(1000, 1, 1000, TOO_LARGE, 0);
        farey(1000, 1, 999, 999001, 999);
        farey(1000000, 1, 1000, TOO_LARGE, 0);
        farey(1000000, 999999, 1000, 1001, 1000);
    }

    private static void promise25TheTargetMayBeTheSource() {
        Edge.sets("fareyNext onto its source", Edge.NOTHING, 1, x -> x.fareyNext(0, 0, 23), 0, 33, 23);
        Edge.refuses("fareyNext onto its source, too large", Edge.registers(1000000, 1), TOO_LARGE,
                x -> x.fareyNext(0, 0, 1));
    }

    private static void promise26TheEndsOfTheOrder() {
        for (int order : new int[] {0, -1, 1001, 1002, MIN, MAX}) {
            Edge.refuses("fareyCount(" + order + ")", BAD, x -> x.fareyCount(order));
        }
        int[][] counts = {{1, 1}, {2, 2}, {3, 4}, {4, 6}, {998, 303144}, {999, 303792}, {1000, 304192}};
        for (int[] each : counts) {
            Edge.answers("fareyCount(" + each[0] + ")", Edge.NOTHING, each[1], x -> x.fareyCount(each[0]));
        }
    }
}
