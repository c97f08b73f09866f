/** Promises 1 to 7 at their boundaries: new objects, and fractions from 1 / 1000000 to 1000000 / 1. */
final class FractionEdgeTest {
    private static final int BAD = -1;
    private static final int TOO_LARGE = -3;
    private static final int NOT_POSITIVE = -4;
    private static final int MIN = Integer.MIN_VALUE;
    private static final int MAX = Integer.MAX_VALUE;

    private FractionEdgeTest() {
    }

    public static void main(String[] args) {
        promise1EachRegisterIsOne();
        promise1ListAndTextAreEmpty();
        promise1SlotsAreEmptyAndArraysNull();
        promise1ObjectsAreApart();
        anObjectServesFor512Calls();
        promise2TheEndsOfNumbers();
        promise2WhatIsReduced();
        promise5TheClosestFractions();
        promise6Sums();
        promise6Differences();
        promise6DifferencesThatAreNotPositive();
        promise6Products();
        promise6Quotients();
        promise6Mediants();
        promise6TheOrderOfErrors();
        promise6TheTargetMayBeOneOfTheOthers();
        promise7TheEndsOfDeterminants();
        Due.end();
    }

    private static void promise1EachRegisterIsOne() {
        SternBrocotExplorer x = new SternBrocotExplorer();
        for (int register = 0; register < 8; register++) {
            Due.fraction(x, register, 1, 1);
        }
    }

    private static void promise1ListAndTextAreEmpty() {
        SternBrocotExplorer x = new SternBrocotExplorer();
        Due.is("count(0) of a new object", x.count(0), 0);
        Due.is("fromTerms of a new object", x.fromTerms(0), -2);
        Due.is("clearTerms of a new object", x.clearTerms(), 0);
        Due.is("the first pushTerm", x.pushTerm(5), 1);
        Due.is("count(1) of a new object", x.count(1), 0);
        Due.is("discardText of a new object", x.discardText(), 0);
        Due.is("followPath of a new object", x.followPath(0, 0), 1);
        Due.fraction(x, 0, 1, 1);
        Due.is("the first feed", x.feed('R'), 1);
    }

    private static void promise1SlotsAreEmptyAndArraysNull() {
        SternBrocotExplorer x = new SternBrocotExplorer();
        Due.is("count(2) of a new object", x.count(2), 0);
        Due.is("snapshot of a new object", x.snapshot(), 0);
        for (int slot = 0; slot < 5; slot++) {
            Due.is("castNode of the new slot " + slot, x.castNode(slot, 0), -11);
            Due.is("operate of the new slot " + slot, x.operate(slot, 0, 7), 0);
            Due.is("plant into the new slot " + slot, x.plant(slot, 0, 0), 0);
        }
        Due.is("count(3) of a new object", x.count(3), 0);
        for (int array = 0; array < 3; array++) {
            Due.is("element of the new array " + array, x.element(array, 0), Long.MIN_VALUE);
            Due.is("setElement of the new array " + array, x.setElement(array, 0, 1), -11);
            Due.is("recognizeWord of the new array " + array, x.recognizeWord(0, array), -11);
        }
        Due.is("restore of a new object", new SternBrocotExplorer().restore(), -2);
    }

    private static void promise1ObjectsAreApart() {
        SternBrocotExplorer first = new SternBrocotExplorer();
        SternBrocotExplorer second = new SternBrocotExplorer();
        first.set(0, 2, 3);
        first.pushTerm(5);
        first.feed('R');
        first.plant(0, 0, 0);
        first.newArray(0, 2);
        first.snapshot();
        Due.fraction(second, 0, 1, 1);
        for (int what = 0; what < 4; what++) {
            Due.is("count(" + what + ") of an object made before", second.count(what), 0);
        }
        Due.is("restore of an object made before", second.restore(), -2);
    }

    /** The document gives an object 512 calls; the last ones of them are as good as the first ones. */
    private static void anObjectServesFor512Calls() {
        SternBrocotExplorer x = new SternBrocotExplorer();
        x.set(0, 1, 1000000);
        x.set(1, 1000000, 1);
        int[] lastTops = {95, 95, 95, 73, 3};
        int[] lastBottoms = {24, 24, 24, 24, 1};
        // Each round makes three calls, the last of them call 509.
        for (int call = 3; call <= 507; call += 3) {
            int measure = call % 5;
            Due.is("rankedBetween as call " + call, x.rankedBetween(2, 0, 1, measure, 718), 719);
            Due.fraction(x, 2, lastTops[measure], lastBottoms[measure]);
        }
        Due.is("call 510", x.count(2), 0);
        Due.is("call 511", x.plant(4, 3, 1), 0);
        Due.is("call 512", x.operate(4, 0, 1), 1000002 ^ 5);
        SternBrocotExplorer planted = new SternBrocotExplorer();
        for (int call = 1; call <= 512; call++) {
            Due.is("plant as call " + call, planted.plant(call % 5, call % 5, 7), call > 5 ? 1 : 0);
        }
    }

    private static void setsNumbers(int top, int bottom, int reducedTop, int reducedBottom) {
        SternBrocotExplorer x = new SternBrocotExplorer();
        x.set(1, 9, 8);
        Due.is("set(0, " + top + ", " + bottom + ")", x.set(0, top, bottom), 1);
        Due.fraction(x, 0, reducedTop, reducedBottom);
        Due.fraction(x, 1, 9, 8);
    }

    private static void promise2TheEndsOfNumbers() {
        for (int wrong : new int[] {0, -1, 1000001, 1000002, MIN, MAX}) {
            Edge.refuses("set with the numerator " + wrong, BAD, x -> x.set(3, wrong, 7));
            Edge.refuses("set with the denominator " + wrong, BAD, x -> x.set(3, 7, wrong));
            Edge.refuses("set with both of " + wrong, BAD, x -> x.set(3, wrong, wrong));
        }
        setsNumbers(1, 7, 1, 7);
        setsNumbers(2, 7, 2, 7);
        setsNumbers(999999, 8, 999999, 8);
        setsNumbers(1000000, 7, 1000000, 7);
        setsNumbers(7, 1, 7, 1);
        setsNumbers(7, 2, 7, 2);
        setsNumbers(8, 999999, 8, 999999);
        setsNumbers(7, 1000000, 7, 1000000);
        setsNumbers(1, 1, 1, 1);
        setsNumbers(1, 1000000, 1, 1000000);
        setsNumbers(1000000, 1, 1000000, 1);
    }

    private static void promise2WhatIsReduced() {
        setsNumbers(1000000, 1000000, 1, 1);
        setsNumbers(999999, 999999, 1, 1);
        setsNumbers(1000000, 999999, 1000000, 999999);
        setsNumbers(999999, 1000000, 999999, 1000000);
        setsNumbers(2, 1000000, 1, 500000);
        setsNumbers(1000000, 2, 500000, 1);
        setsNumbers(500000, 1000000, 1, 2);
        setsNumbers(999998, 999999, 999998, 999999);
        // Neighbours in the Fibonacci sequence take Euclid's algorithm the most steps.
        setsNumbers(832040, 514229, 832040, 514229);
        setsNumbers(2 * 317811, 2 * 196418, 317811, 196418);
        // Two that differ by a large prime factor alone.
        setsNumbers(999983, 999983, 1, 1);
    }

    private static void compares(int a, int b, int c, int d, int due) {
        Edge.Calls before = Edge.registers(a, b, c, d);
        Edge.answers("compare(" + a + "/" + b + ", " + c + "/" + d + ")", before, due, x -> x.compare(0, 1));
        Edge.answers("compare turned", before, 2 - due, x -> x.compare(1, 0));
    }

    private static void promise5TheClosestFractions() {
        compares(999998, 999999, 999999, 1000000, 0);
        compares(1000000, 999999, 999999, 999998, 0);
        compares(1, 1000000, 1, 999999, 0);
        compares(999999, 1, 1000000, 1, 0);
        compares(1, 1000000, 1000000, 1, 0);
        compares(999999, 1000000, 1, 1, 0);
        compares(1, 1, 1000000, 999999, 0);
        compares(1000000, 999999, 1000000, 999999, 1);
        compares(2, 1000000, 1, 500000, 1);
        compares(1, 1, 1, 1, 1);
        Edge.answers("compare with itself", Edge.registers(2, 3), 1, x -> x.compare(0, 0));
    }

    /** Register 6 is set to the fraction, or stays if the numerator is an error code. */
    private static void combines(int operation, int a, int b, int c, int d, int top, int bottom) {
        String told = "combine " + operation + " of " + a + "/" + b + " and " + c + "/" + d;
        Edge.Calls before = Edge.registers(a, b, c, d);
        if (top < 0) {
            Edge.refuses(told, before, top, x -> x.combine(6, 0, 1, operation));
        } else {
            Edge.sets(told, before, 1, x -> x.combine(6, 0, 1, operation), 6, top, bottom);
        }
    }

    private static void promise6Sums() {
        combines(0, 999998, 1, 1, 1, 999999, 1);
        combines(0, 999999, 1, 1, 1, 1000000, 1);
        combines(0, 1000000, 1, 1, 1, TOO_LARGE, 0);
        combines(0, 1000000, 1, 1000000, 1, TOO_LARGE, 0);
        combines(0, 1, 64, 1, 15625, 15689, 1000000);
        combines(0, 1, 101, 1, 9901, TOO_LARGE, 0);
        combines(0, 1, 999999, 1, 1000000, TOO_LARGE, 0);
        combines(0, 1, 1000000, 1000000, 1, TOO_LARGE, 0);
        // In lowest terms these are small, though the products before reducing are not.
        combines(0, 1, 1000000, 1, 1000000, 1, 500000);
        combines(0, 1, 1000000, 999999, 1000000, 1, 1);
        combines(0, 999999, 1000000, 999999, 1000000, 999999, 500000);
        combines(0, 500000, 1, 500000, 1, 1000000, 1);
        combines(0, 500001, 1, 500000, 1, TOO_LARGE, 0);
    }

    private static void promise6Differences() {
        combines(1, 500000, 1, 1, 2, 999999, 2);
        combines(1, 333334, 1, 2, 3, 1000000, 3);
        combines(1, 333334, 1, 1, 3, TOO_LARGE, 0);
        combines(1, 500001, 1, 1, 2, TOO_LARGE, 0);
        combines(1, 1, 64, 1, 15625, 15561, 1000000);
        combines(1, 1, 101, 1, 9901, TOO_LARGE, 0);
        combines(1, 1, 2, 499999, 1000000, 1, 1000000);
        combines(1, 999999, 1000000, 999998, 999999, TOO_LARGE, 0);
        combines(1, 1000000, 1, 999999, 1, 1, 1);
        combines(1, 1000000, 1, 1, 1, 999999, 1);
        combines(1, 1000000, 1, 1, 1000000, TOO_LARGE, 0);
    }

    private static void promise6DifferencesThatAreNotPositive() {
        combines(1, 499999, 1000000, 1, 2, NOT_POSITIVE, 0);
        combines(1, 1, 2, 1, 2, NOT_POSITIVE, 0);
        combines(1, 1, 1, 1, 1, NOT_POSITIVE, 0);
        combines(1, 1000000, 999999, 1000000, 999999, NOT_POSITIVE, 0);
        combines(1, 999998, 999999, 999999, 1000000, NOT_POSITIVE, 0);
        combines(1, 999999, 1, 1000000, 1, NOT_POSITIVE, 0);
        combines(1, 1, 1000000, 1000000, 1, NOT_POSITIVE, 0);
        Edge.refuses("a register minus itself", NOT_POSITIVE, x -> x.combine(6, 5, 5, 1));
    }

    private static void promise6Products() {
        combines(2, 999, 1, 1001, 1, 999999, 1);
        combines(2, 1000, 1, 1000, 1, 1000000, 1);
        combines(2, 101, 1, 9901, 1, TOO_LARGE, 0);
        combines(2, 1000000, 1, 1000000, 1, TOO_LARGE, 0);
        combines(2, 1, 999, 1, 1001, 1, 999999);
        combines(2, 1, 1000, 1, 1000, 1, 1000000);
        combines(2, 1, 101, 1, 9901, TOO_LARGE, 0);
        combines(2, 1, 1000000, 1, 1000000, TOO_LARGE, 0);
        combines(2, 1000000, 1, 1, 1000000, 1, 1);
        combines(2, 1000000, 999999, 999999, 1000000, 1, 1);
        combines(2, 1000000, 999999, 999999, 999998, 500000, 499999);
    }

    private static void promise6Quotients() {
        combines(3, 999, 1, 1, 1001, 999999, 1);
        combines(3, 1000, 1, 1, 1000, 1000000, 1);
        combines(3, 101, 1, 1, 9901, TOO_LARGE, 0);
        combines(3, 1, 999, 1001, 1, 1, 999999);
        combines(3, 1, 1000, 1000, 1, 1, 1000000);
        combines(3, 1, 101, 9901, 1, TOO_LARGE, 0);
        combines(3, 1000000, 1, 1, 1000000, TOO_LARGE, 0);
        combines(3, 1, 1000000, 1000000, 1, TOO_LARGE, 0);
        combines(3, 1000000, 999999, 1000000, 999999, 1, 1);
        combines(3, 1000000, 1, 1, 1, 1000000, 1);
    }

    private static void promise6Mediants() {
        combines(4, 499999, 1, 499999, 2, 999998, 3);
        combines(4, 499999, 1, 500001, 2, 1000000, 3);
        combines(4, 500000, 1, 500001, 2, TOO_LARGE, 0);
        combines(4, 1, 499999, 2, 499999, 3, 999998);
        combines(4, 1, 499999, 2, 500001, 3, 1000000);
        combines(4, 1, 500000, 2, 500001, TOO_LARGE, 0);
        combines(4, 1000000, 1, 1000000, 1, 1000000, 1);
        combines(4, 1, 1000000, 1, 1000000, 1, 1000000);
        combines(4, 1000000, 1, 1, 1000000, 1, 1);
        combines(4, 1000000, 999999, 1000000, 999999, 1000000, 999999);
        combines(4, 1000000, 999999, 999999, 1000000, 1, 1);
        combines(4, 1000000, 1, 999999, 2, TOO_LARGE, 0);
    }

    private static void promise6TheOrderOfErrors() {
        Edge.Calls before = Edge.registers(1, 1000000, 1000000, 1);
        Edge.refuses("a wrong target and a negative difference", before, BAD, x -> x.combine(8, 0, 1, 1));
        Edge.refuses("a wrong target and a large sum", before, BAD, x -> x.combine(-1, 0, 1, 0));
        Edge.refuses("a wrong operation and a large sum", before, BAD, x -> x.combine(2, 0, 1, 5));
        Edge.refuses("a negative difference that is large, too", before, NOT_POSITIVE, x -> x.combine(2, 0, 1, 1));
        Edge.refuses("a positive difference that is large", before, TOO_LARGE, x -> x.combine(2, 1, 0, 1));
    }

    private static void promise6TheTargetMayBeOneOfTheOthers() {
        for (int operation = 0; operation <= 4; operation++) {
            int now = operation;
            int[][] due = {{19, 12}, {1, 12}, {5, 8}, {10, 9}, {4, 5}};
            Edge.Calls before = Edge.registers(5, 6, 3, 4);
            Edge.sets("the target is the first of " + now, before, 1, x -> x.combine(0, 0, 1, now), 0,
                    due[now][0], due[now][1]);
            Edge.sets("the target is the second of " + now, before, 1, x -> x.combine(1, 0, 1, now), 1,
                    due[now][0], due[now][1]);
        }
        Edge.sets("all three are one, sum", Edge.NOTHING, 1, x -> x.combine(0, 0, 0, 0), 0, 43, 15);
        Edge.refuses("all three are one, difference", NOT_POSITIVE, x -> x.combine(0, 0, 0, 1));
        Edge.sets("all three are one, product", Edge.NOTHING, 1, x -> x.combine(0, 0, 0, 2), 0, 1849, 900);
        Edge.sets("all three are one, quotient", Edge.NOTHING, 1, x -> x.combine(0, 0, 0, 3), 0, 1, 1);
        Edge.sets("all three are one, mediant", Edge.NOTHING, 1, x -> x.combine(0, 0, 0, 4), 0, 43, 30);
    }

    private static void determines(int a, int b, int c, int d, long due) {
        Edge.Calls before = Edge.registers(a, b, c, d);
        Edge.answers("determinant(" + a + "/" + b + ", " + c + "/" + d + ")", before, due, x -> x.determinant(0, 1));
        Edge.answers("determinant turned", before, -due, x -> x.determinant(1, 0));
    }

    private static void promise7TheEndsOfDeterminants() {
        determines(1000000, 1, 1, 1000000, 999999999999L);
        determines(1000000, 1, 1, 999999, 999998999999L);
        determines(1000000, 999999, 999999, 1000000, 1999999);
        determines(999999, 1000000, 999998, 999999, 1);
        determines(1, 1, 1, 1, 0);
        determines(4, 6, 2, 3, 0);
        determines(2, 1, 1, 1, 1);
        determines(46341, 1, 1, 46341, 2147488280L);
    }
}
