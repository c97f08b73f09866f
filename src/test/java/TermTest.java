/** Promises 16 to 21: the terms of a fraction, its convergents and the term list. */
final class TermTest {
    private static final int BAD = SternBrocotExplorer.BAD_ARGUMENT;
    private static final int NONE = SternBrocotExplorer.NONE;
    private static final int TOO_LARGE = SternBrocotExplorer.TOO_LARGE;
    private static final int MIN = Integer.MIN_VALUE;
    private static final int MAX = Integer.MAX_VALUE;

    private TermTest() {
    }

    public static void main(String[] args) {
        promise16TermCount();
        promise17Term();
        promise18Convergent();
        promises19And20TheTermList();
        promise21FromTerms();
        promise21FromTermsErrors();
        Due.end();
    }

    private static void promise16TermCount() {
        SternBrocotExplorer x = new SternBrocotExplorer();
        int[][] counts = {{1, 1, 1}, {7, 1, 1}, {1, 7, 2}, {43, 30, 4}, {30, 43, 5}, {832040, 514229, 28},
            {514229, 832040, 29}};
        for (int[] each : counts) {
            x.set(0, each[0], each[1]);
            Due.is("termCount of " + each[0] + "/" + each[1], x.termCount(0), each[2]);
        }
        Due.is("termCount(-1)", x.termCount(-1), BAD);
        Due.is("termCount(8)", x.termCount(8), BAD);
    }

    private static void promise17Term() {
        SternBrocotExplorer x = new SternBrocotExplorer();
        Due.is("term(1/1, 0)", x.term(0, 0), 1);
        Due.is("term(1/1, 1)", x.term(0, 1), NONE);
        x.set(0, 30, 43);
        int[] terms = {0, 1, 2, 3, 4, NONE, NONE};
        for (int i = 0; i < terms.length; i++) {
            Due.is("term(30/43, " + i + ")", x.term(0, i), terms[i]);
        }
        x.set(0, 514229, 832040);
        Due.is("the last term of 514229/832040", x.term(0, 28), 2);
        Due.is("the one after it", x.term(0, 29), NONE);
        x.set(0, 1, 1000000);
        Due.is("term(1/1000000, 1)", x.term(0, 1), 1000000);
        Due.is("term(0, MAX)", x.term(0, MAX), NONE);
        Due.is("term(0, -1)", x.term(0, -1), BAD);
        Due.is("term(0, MIN)", x.term(0, MIN), BAD);
        Due.is("term(-1, 9)", x.term(-1, 9), BAD);
        Due.is("term(8, 0)", x.term(8, 0), BAD);
    }

    private static void promise18Convergent() {
        SternBrocotExplorer x = new SternBrocotExplorer();
        x.set(0, 43, 30);
        int[][] convergents = {{1, 1}, {3, 2}, {10, 7}, {43, 30}};
        for (int i = 0; i < convergents.length; i++) {
            Due.is("convergent(1, 43/30, " + i + ")", x.convergent(1, 0, i), 1);
            Due.fraction(x, 1, convergents[i][0], convergents[i][1]);
        }
        Due.is("convergent(1, 43/30, 4)", x.convergent(1, 0, 4), NONE);
        Due.is("convergent(1, 43/30, MAX)", x.convergent(1, 0, MAX), NONE);
        x.set(2, 2, 7);
        Due.is("a convergent of 0", x.convergent(1, 2, 0), NONE);
        Due.fraction(x, 1, 43, 30);
        Due.is("the target is the source", x.convergent(2, 2, 1), 1);
        Due.fraction(x, 2, 1, 3);
        x.set(3, 832040, 514229);
        Due.is("the last convergent but one", x.convergent(4, 3, 26), 1);
        Due.fraction(x, 4, 317811, 196418);
        int[][] wrong = {{-1, 0, 0}, {8, 0, 0}, {0, -1, 9}, {0, 8, 0}, {0, 0, -1}, {0, 0, MIN}};
        for (int[] each : wrong) {
            Due.is("convergent" + java.util.Arrays.toString(each), x.convergent(each[0], each[1], each[2]), BAD);
        }
        Due.fraction(x, 0, 43, 30);
    }

    private static void promises19And20TheTermList() {
        SternBrocotExplorer x = new SternBrocotExplorer();
        for (int term : new int[] {-1, 1000001, MIN, MAX}) {
            Due.is("pushTerm(" + term + ")", x.pushTerm(term), BAD);
        }
        Due.is("count(0)", x.count(0), 0);
        for (int length = 1; length <= 20; length++) {
            Due.is("pushTerm to " + length, x.pushTerm(length == 1 ? 0 : length == 2 ? 1000000 : 1), length);
            Due.is("count(0) at " + length, x.count(0), length);
        }
        Due.is("one more", x.pushTerm(1), -5);
        Due.is("a wrong one more", x.pushTerm(-1), BAD);
        Due.is("a too great one more", x.pushTerm(1000001), BAD);
        Due.is("count(0) when full", x.count(0), 20);
        Due.is("clearTerms when full", x.clearTerms(), 20);
        Due.is("clearTerms again", x.clearTerms(), 0);
        Due.is("fromTerms of nothing", x.fromTerms(0), NONE);
        Due.is("pushTerm after clearTerms", x.pushTerm(4), 1);
        Due.is("fromTerms after clearTerms", x.fromTerms(0), 1);
        Due.fraction(x, 0, 4, 1);
    }

    private static int fromTerms(SternBrocotExplorer x, int target, int... terms) {
        x.clearTerms();
        for (int term : terms) {
            x.pushTerm(term);
        }
        return x.fromTerms(target);
    }

    private static void promise21FromTerms() {
        SternBrocotExplorer x = new SternBrocotExplorer();
        x.set(0, 9, 8);
        Due.is("[1] on a new object", fromTerms(x, 0, 1), 1);
        Due.fraction(x, 0, 1, 1);
        Due.is("[1; 2, 3, 4]", fromTerms(x, 0, 1, 2, 3, 4), 1);
        Due.fraction(x, 0, 43, 30);
        Due.is("the list stays", x.count(0), 4);
        Due.is("and answers again", x.fromTerms(7), 1);
        Due.fraction(x, 7, 43, 30);
        Due.is("[0; 5]", fromTerms(x, 0, 0, 5), 1);
        Due.fraction(x, 0, 1, 5);
        Due.is("[0; 5, 1]", fromTerms(x, 0, 0, 5, 1), 1);
        Due.fraction(x, 0, 1, 6);
        Due.is("[0; 1]", fromTerms(x, 0, 0, 1), 1);
        Due.fraction(x, 0, 1, 1);
        Due.is("[1000000]", fromTerms(x, 0, 1000000), 1);
        Due.fraction(x, 0, 1000000, 1);
        Due.is("[999999; 1]", fromTerms(x, 0, 999999, 1), 1);
        Due.fraction(x, 0, 1000000, 1);
        Due.is("[0; 1000000]", fromTerms(x, 0, 0, 1000000), 1);
        Due.fraction(x, 0, 1, 1000000);
        Due.is("twenty ones", fromTerms(x, 0, 1, 1, 1, 1, 1, 1, 1, 1, 1, 1, 1, 1, 1, 1, 1, 1, 1, 1, 1, 1), 1);
        Due.fraction(x, 0, 10946, 6765);
    }

    private static void promise21FromTermsErrors() {
        SternBrocotExplorer x = new SternBrocotExplorer();
        x.set(0, 9, 8);
        Due.is("no terms", fromTerms(x, 0), NONE);
        Due.is("[0]", fromTerms(x, 0, 0), NONE);
        Due.is("[0; 0]", fromTerms(x, 0, 0, 0), NONE);
        Due.is("[3; 0]", fromTerms(x, 0, 3, 0), NONE);
        Due.is("[3; 0, 2]", fromTerms(x, 0, 3, 0, 2), NONE);
        Due.is("a zero before too large terms", fromTerms(x, 0, 1, 0, 1000000, 1000000), NONE);
        Due.is("a zero behind too large terms", fromTerms(x, 0, 1000000, 1000000, 0), NONE);
        Due.is("[1000000; 1]", fromTerms(x, 0, 1000000, 1), TOO_LARGE);
        Due.is("[1000000; 2]", fromTerms(x, 0, 1000000, 2), TOO_LARGE);
        Due.is("[0; 1000000, 1]", fromTerms(x, 0, 0, 1000000, 1), TOO_LARGE);
        Due.is("[0; 1, 1000000]", fromTerms(x, 0, 0, 1, 1000000), TOO_LARGE);
        int[] great = new int[20];
        java.util.Arrays.fill(great, 1000000);
        Due.is("twenty of the greatest terms", fromTerms(x, 0, great), TOO_LARGE);
        Due.fraction(x, 0, 9, 8);
        Due.is("the list stays", x.count(0), 20);
        Due.is("fromTerms(-1)", x.fromTerms(-1), BAD);
        Due.is("fromTerms(8)", x.fromTerms(8), BAD);
        x.clearTerms();
        Due.is("fromTerms(8) without terms", x.fromTerms(8), BAD);
    }
}
