/** Promises 16 to 21 at their boundaries: terms, convergents and the term list. */
final class TermEdgeTest {
    private static final int BAD = -1;
    private static final int NONE = -2;
    private static final int TOO_LARGE = -3;
    private static final int FULL = -5;
    private static final int MIN = Integer.MIN_VALUE;
    private static final int MAX = Integer.MAX_VALUE;

    private TermEdgeTest() {
    }

    public static void main(String[] args) {
        promises16And17TheFirstAndTheLastTerm();
        promises16And17TheMostTerms();
        promise18TheFirstAndTheLastConvergent();
        promise18AConvergentOfZero();
        promise18TheTargetMayBeTheSource();
        promise19TheEndsOfTheIntegers();
        promise19TheLastRoomOfTheList();
        promise20EmptyAndFullLists();
        promise21AnEmptyList();
        promise21ZerosInTheList();
        promise21AValueOfZero();
        promise21TheLastTermMayBeOne();
        promise21TheGreatestValues();
        promise21ValuesThatAreTooLarge();
        promise21TheOrderOfErrors();
        promise21TheListStays();
        Due.end();
    }

    private static void terms(int top, int bottom, int... terms) {
        String of = " of " + top + "/" + bottom;
        Edge.Calls before = Edge.registers(top, bottom);
        Edge.answers("termCount" + of, before, terms.length, x -> x.termCount(0));
        for (int i = 0; i <= terms.length; i++) {
            int place = i;
            Edge.answers("term " + i + of, before, i < terms.length ? terms[i] : NONE, x -> x.term(0, place));
        }
        Edge.answers("term MAX" + of, before, NONE, x -> x.term(0, MAX));
        Edge.refuses("term -1" + of, before, BAD, x -> x.term(0, -1));
        Edge.refuses("term MIN" + of, before, BAD, x -> x.term(0, MIN));
    }

    private static void promises16And17TheFirstAndTheLastTerm() {
        terms(1, 1, 1);
        terms(2, 1, 2);
        terms(999999, 1, 999999);
        terms(1000000, 1, 1000000);
        terms(1, 2, 0, 2);
        terms(1, 999999, 0, 999999);
        terms(1, 1000000, 0, 1000000);
        terms(3, 2, 1, 2);
        terms(2, 3, 0, 1, 2);
        terms(999999, 2, 499999, 2);
        terms(999999, 1000000, 0, 1, 999999);
        terms(1000000, 999999, 1, 999999);
        terms(43, 30, 1, 2, 3, 4);
        terms(30, 43, 0, 1, 2, 3, 4);
        Edge.refuses("term MAX of a wrong register", BAD, x -> x.term(8, MAX));
        Edge.refuses("term 4 of a wrong register", BAD, x -> x.term(-1, 4));
    }

    private static void promises16And17TheMostTerms() {
        int[] terms = new int[28];
        java.util.Arrays.fill(terms, 1);
        terms[27] = 2;
        terms(832040, 514229, terms);
        int[] more = new int[29];
        java.util.Arrays.fill(more, 1);
        more[0] = 0;
        more[28] = 2;
        terms(514229, 832040, more);
    }

    /** Register 6 is set to the convergents, given by numerator and denominator. */
    private static void convergents(int top, int bottom, int... numbers) {
        String of = " of " + top + "/" + bottom;
        Edge.Calls before = Edge.registers(top, bottom);
        int count = numbers.length / 2;
        for (int i = 0; i < count; i++) {
            int place = i;
            if (numbers[2 * i] == 0) {
                Edge.refuses("convergent " + i + of, before, NONE, x -> x.convergent(6, 0, place));
            } else {
                Edge.sets("convergent " + i + of, before, 1, x -> x.convergent(6, 0, place), 6,
                        numbers[2 * i], numbers[2 * i + 1]);
            }
        }
        Edge.refuses("the convergent behind the last one" + of, before, NONE, x -> x.convergent(6, 0, count));
        Edge.refuses("convergent MAX" + of, before, NONE, x -> x.convergent(6, 0, MAX));
        Edge.refuses("convergent -1" + of, before, BAD, x -> x.convergent(6, 0, -1));
        Edge.refuses("convergent MIN" + of, before, BAD, x -> x.convergent(6, 0, MIN));
        Edge.refuses("a wrong target and no such convergent" + of, before, BAD, x -> x.convergent(8, 0, count));
    }

    private static void promise18TheFirstAndTheLastConvergent() {
        convergents(1, 1, 1, 1);
        convergents(1000000, 1, 1000000, 1);
        convergents(3, 2, 1, 1, 3, 2);
        convergents(43, 30, 1, 1, 3, 2, 10, 7, 43, 30);
        convergents(1000000, 999999, 1, 1, 1000000, 999999);
        convergents(999999, 2, 499999, 1, 999999, 2);
        Edge.sets("the last convergent of the most terms", Edge.registers(514229, 832040), 1,
                x -> x.convergent(6, 0, 28), 6, 514229, 832040);
        Edge.sets("the last but one of the most terms", Edge.registers(514229, 832040), 1,
                x -> x.convergent(6, 0, 27), 6, 196418, 317811);
        Edge.refuses("one more than the most terms", Edge.registers(514229, 832040), NONE,
                x -> x.convergent(6, 0, 29));
    }

    private static void promise18AConvergentOfZero() {
        convergents(1, 2, 0, 1, 1, 2);
        convergents(1, 1000000, 0, 1, 1, 1000000);
        convergents(999999, 1000000, 0, 1, 1, 1, 999999, 1000000);
        convergents(2, 7, 0, 1, 1, 3, 2, 7);
        Edge.refuses("a wrong source and a convergent of 0", BAD, x -> x.convergent(6, 8, 0));
    }

    private static void promise18TheTargetMayBeTheSource() {
        Edge.sets("convergent onto its source", Edge.NOTHING, 1, x -> x.convergent(0, 0, 2), 0, 10, 7);
        Edge.sets("the last convergent onto its source", Edge.NOTHING, 1, x -> x.convergent(0, 0, 3), 0, 43, 30);
        Edge.refuses("no convergent onto its source", NONE, x -> x.convergent(0, 0, 4));
        Edge.refuses("a convergent of 0 onto its source", NONE, x -> x.convergent(3, 3, 0));
    }

    private static void promise19TheEndsOfTheIntegers() {
        for (int wrong : new int[] {-1, 1000001, MIN, MAX}) {
            Edge.refuses("pushTerm(" + wrong + ")", BAD, x -> x.pushTerm(wrong));
        }
        for (int term : new int[] {0, 1, 999999, 1000000}) {
            SternBrocotExplorer x = new SternBrocotExplorer();
            Due.is("pushTerm(" + term + ")", x.pushTerm(term), 1);
            Due.is("fromTerms then", x.fromTerms(3), term == 0 ? NONE : 1);
            Due.fraction(x, 3, term == 0 ? 1 : term, 1);
        }
    }

    private static Edge.Calls ones(int count) {
        int[] ones = new int[count];
        java.util.Arrays.fill(ones, 1);
        return Edge.termList(ones);
    }

    private static void promise19TheLastRoomOfTheList() {
        Edge.changes("pushTerm to 1", Edge.termList(), 1, x -> x.pushTerm(1), ones(1));
        Edge.changes("pushTerm to 19", ones(18), 19, x -> x.pushTerm(1), ones(19));
        Edge.changes("pushTerm to 20", ones(19), 20, x -> x.pushTerm(1), ones(20));
        Edge.refuses("pushTerm to 21", ones(20), FULL, x -> x.pushTerm(1));
        Edge.refuses("pushTerm(0) to 21", ones(20), FULL, x -> x.pushTerm(0));
        Edge.refuses("pushTerm(1000000) to 21", ones(20), FULL, x -> x.pushTerm(1000000));
        for (int wrong : new int[] {-1, 1000001, MIN, MAX}) {
            Edge.refuses("pushTerm(" + wrong + ") to 21", ones(20), BAD, x -> x.pushTerm(wrong));
            Edge.refuses("pushTerm(" + wrong + ") to 20", ones(19), BAD, x -> x.pushTerm(wrong));
        }
        Edge.answers("the length of 19", ones(19), 19, x -> x.count(0));
        Edge.answers("the length of 20", ones(20), 20, x -> x.count(0));
        Edge.sets("the value of 20 terms", ones(20), 1, x -> x.fromTerms(6), 6, 10946, 6765);
    }

    private static void promise20EmptyAndFullLists() {
        for (int length : new int[] {0, 1, 19, 20}) {
            Edge.changes("clearTerms of " + length, ones(length), length, x -> x.clearTerms(), ones(0));
        }
        Edge.answers("clearTerms a second time", Edge.both(ones(20), x -> x.clearTerms()), 0, x -> x.clearTerms());
        Edge.changes("pushTerm after a full list", Edge.both(ones(20), x -> x.clearTerms()), 1, x -> x.pushTerm(7),
                Edge.termList(7));
    }

    private static void value(int top, int bottom, int... terms) {
        String told = "fromTerms of " + java.util.Arrays.toString(terms);
        Edge.Calls before = Edge.termList(terms);
        if (top < 0) {
            Edge.refuses(told, before, top, x -> x.fromTerms(6));
        } else {
            Edge.sets(told, before, 1, x -> x.fromTerms(6), 6, top, bottom);
        }
    }

    private static void promise21AnEmptyList() {
        value(NONE, 0);
        value(1, 1, 1);
        Edge.refuses("fromTerms of a cleared list", Edge.both(ones(20), x -> x.clearTerms()), NONE,
                x -> x.fromTerms(6));
    }

    private static void promise21ZerosInTheList() {
        value(1, 5, 0, 5);
        value(NONE, 0, 5, 0);
        value(NONE, 0, 0, 0);
        value(NONE, 0, 0, 0, 5);
        value(NONE, 0, 5, 0, 3);
        value(NONE, 0, 5, 3, 0);
        value(NONE, 0, 1, 1, 1, 1, 1, 1, 1, 1, 1, 1, 1, 1, 1, 1, 1, 1, 1, 1, 1, 0);
        value(NONE, 0, 1, 0, 1, 1, 1, 1, 1, 1, 1, 1, 1, 1, 1, 1, 1, 1, 1, 1, 1, 1);
        value(4181, 6765, 0, 1, 1, 1, 1, 1, 1, 1, 1, 1, 1, 1, 1, 1, 1, 1, 1, 1, 1, 1);
        value(5, 3, 1, 1, 1, 1);
    }

    private static void promise21AValueOfZero() {
        value(NONE, 0, 0);
        value(1, 1, 0, 1);
        value(1, 1000000, 0, 1000000);
    }

    private static void promise21TheLastTermMayBeOne() {
        value(1, 1, 1);
        value(2, 1, 1, 1);
        value(6, 1, 5, 1);
        value(1, 6, 0, 5, 1);
        value(1, 2, 0, 1, 1);
        value(1000000, 1, 999999, 1);
        value(1, 1000000, 0, 999999, 1);
    }

    private static void promise21TheGreatestValues() {
        value(999999, 1, 999999);
        value(1000000, 1, 1000000);
        value(1, 999999, 0, 999999);
        value(999999, 2, 499999, 2);
        value(2, 999999, 0, 499999, 2);
        value(1000000, 3, 333333, 3);
        value(3, 1000000, 0, 333333, 3);
        value(1000000, 999999, 1, 999999);
        value(999999, 1000000, 0, 1, 999999);
        value(999999, 1000000, 0, 1, 999998, 1);
    }

    private static void promise21ValuesThatAreTooLarge() {
        value(TOO_LARGE, 0, 1000000, 1);
        value(TOO_LARGE, 0, 1000000, 1000000);
        value(TOO_LARGE, 0, 0, 1000000, 1);
        value(TOO_LARGE, 0, 500000, 2);
        value(TOO_LARGE, 0, 0, 500000, 2);
        value(TOO_LARGE, 0, 1, 1000000);
        value(TOO_LARGE, 0, 0, 1, 1000000);
        value(TOO_LARGE, 0, 0, 1, 999999, 1);
        value(TOO_LARGE, 0, 333333, 4);
        int[] great = new int[20];
        java.util.Arrays.fill(great, 1000000);
        value(TOO_LARGE, 0, great);
        great[0] = 0;
        value(TOO_LARGE, 0, great);
        great[0] = 1;
        java.util.Arrays.fill(great, 1, 20, 1);
        great[19] = 1000000;
        value(TOO_LARGE, 0, great);
    }

    private static void promise21TheOrderOfErrors() {
        value(NONE, 0, 1000000, 1000000, 0);
        value(NONE, 0, 0, 0, 1000000, 1000000);
        value(NONE, 0, 1000000, 0, 1000000);
        for (int wrong : new int[] {-1, 8}) {
            Edge.refuses("a wrong target and no terms", ones(0), BAD, x -> x.fromTerms(wrong));
            Edge.refuses("a wrong target and a value of 0", Edge.termList(0), BAD, x -> x.fromTerms(wrong));
            Edge.refuses("a wrong target and large terms", Edge.termList(1000000, 1), BAD, x -> x.fromTerms(wrong));
        }
    }

    private static void promise21TheListStays() {
        Edge.answers("the length behind fromTerms", Edge.both(ones(20), x -> x.fromTerms(6)), 20, x -> x.count(0));
        Edge.answers("the length behind NONE", Edge.both(Edge.termList(0, 0), x -> x.fromTerms(6)), 2,
                x -> x.count(0));
        Edge.answers("the length behind TOO_LARGE", Edge.both(Edge.termList(1000000, 1), x -> x.fromTerms(6)), 2,
                x -> x.count(0));
        Edge.sets("a second fromTerms", Edge.both(Edge.termList(0, 5), x -> x.fromTerms(6)), 1, x -> x.fromTerms(0),
                0, 1, 5);
    }
}
