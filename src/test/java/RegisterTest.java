/** Promises 1 to 7: a new object, the registers, and what is combined and compared of them. */
final class RegisterTest {
    private static final int BAD = SternBrocotExplorer.BAD_ARGUMENT;
    private static final int MIN = Integer.MIN_VALUE;
    private static final int MAX = Integer.MAX_VALUE;

    private RegisterTest() {
    }

    public static void main(String[] args) {
        promise1NewObject();
        promise2Set();
        promises3And4NumeratorAndDenominator();
        promise5Compare();
        promise6Combine();
        promise6CombineErrors();
        promise7Determinant();
        Due.end();
    }

    private static void promise1NewObject() {
        SternBrocotExplorer x = new SternBrocotExplorer();
        for (int register = 0; register < 8; register++) {
            Due.fraction(x, register, 1, 1);
        }
        for (int what = 0; what < 4; what++) {
            Due.is("count(" + what + ") of a new object", x.count(what), 0);
        }
        for (int slot = 0; slot < 5; slot++) {
            Due.is("castNode of a new object", x.castNode(slot, 0), -11);
        }
        for (int array = 0; array < 3; array++) {
            Due.is("setElement of a new object", x.setElement(array, 0, 1), -11);
        }
        Due.is("clearTerms of a new object", x.clearTerms(), 0);
        Due.is("discardText of a new object", x.discardText(), 0);
        Due.is("restore of a new object", x.restore(), -2);
        x.set(0, 2, 3);
        x.pushTerm(1);
        x.feed('L');
        x.plant(0, 0, 0);
        x.newArray(0, 1);
        SternBrocotExplorer other = new SternBrocotExplorer();
        Due.fraction(other, 0, 1, 1);
        for (int what = 0; what < 4; what++) {
            Due.is("count(" + what + ") of a second object", other.count(what), 0);
        }
    }

    private static void promise2Set() {
        SternBrocotExplorer x = new SternBrocotExplorer();
        Due.is("set(7, 6, 4)", x.set(7, 6, 4), 1);
        Due.fraction(x, 7, 3, 2);
        Due.is("set(7, 1000000, 1000000)", x.set(7, 1000000, 1000000), 1);
        Due.fraction(x, 7, 1, 1);
        Due.is("set(0, 1000000, 999999)", x.set(0, 1000000, 999999), 1);
        Due.fraction(x, 0, 1000000, 999999);
        Due.is("set(0, 250000, 1000000)", x.set(0, 250000, 1000000), 1);
        Due.fraction(x, 0, 1, 4);
        Due.is("set(0, 832040, 514229)", x.set(0, 832040, 514229), 1);
        Due.fraction(x, 0, 832040, 514229);
        int[][] wrong = {{-1, 1, 1}, {8, 1, 1}, {MIN, 1, 1}, {MAX, 1, 1}, {0, 0, 1}, {0, -3, 1}, {0, 1000001, 1},
            {0, 1, 0}, {0, 1, -5}, {0, 1, 1000001}, {0, MIN, MIN}, {0, MAX, MAX}, {0, 2000000, 2000000}};
        for (int[] each : wrong) {
            Due.is("set" + java.util.Arrays.toString(each), x.set(each[0], each[1], each[2]), BAD);
            Due.fraction(x, 0, 832040, 514229);
        }
    }

    private static void promises3And4NumeratorAndDenominator() {
        SternBrocotExplorer x = new SternBrocotExplorer();
        for (int register = 0; register < 8; register++) {
            x.set(register, register + 1, 11);
        }
        for (int register = 0; register < 8; register++) {
            Due.fraction(x, register, register + 1, 11);
        }
        for (int register : new int[] {-1, 8, MIN, MAX}) {
            Due.is("numerator(" + register + ")", x.numerator(register), BAD);
            Due.is("denominator(" + register + ")", x.denominator(register), BAD);
        }
    }

    private static void promise5Compare() {
        SternBrocotExplorer x = new SternBrocotExplorer();
        x.set(0, 2, 3);
        x.set(1, 3, 4);
        x.set(2, 4, 6);
        Due.is("compare(2/3, 3/4)", x.compare(0, 1), 0);
        Due.is("compare(2/3, 4/6)", x.compare(0, 2), 1);
        Due.is("compare(3/4, 2/3)", x.compare(1, 0), 2);
        Due.is("compare(0, 0)", x.compare(0, 0), 1);
        x.set(0, 999999, 1000000);
        x.set(1, 999998, 999999);
        Due.is("compare of large ones", x.compare(0, 1), 2);
        Due.is("compare of large ones, turned", x.compare(1, 0), 0);
        x.set(0, 1, 1000000);
        x.set(1, 1000000, 1);
        Due.is("compare of the least and the greatest", x.compare(0, 1), 0);
        Due.is("compare(-1, 0)", x.compare(-1, 0), BAD);
        Due.is("compare(0, -1)", x.compare(0, -1), BAD);
        Due.is("compare(8, 0)", x.compare(8, 0), BAD);
        Due.is("compare(0, 8)", x.compare(0, 8), BAD);
    }

    private static void promise6Combine() {
        SternBrocotExplorer x = new SternBrocotExplorer();
        int[][] answers = {{7, 6}, {1, 3}, {5, 16}, {9, 5}, {4, 7}};
        for (int operation = 0; operation <= 4; operation++) {
            x.set(0, 3, 4);
            x.set(1, 5, 12);
            Due.is("combine(2, 0, 1, " + operation + ")", x.combine(2, 0, 1, operation), 1);
            if (operation > 0 && operation < 4) {
                Due.fraction(x, 2, answers[operation][0], answers[operation][1]);
            }
            Due.fraction(x, 0, 3, 4);
            Due.fraction(x, 1, 5, 12);
        }
        Due.fraction(x, 2, 1, 2);
        x.combine(2, 0, 1, 0);
        Due.fraction(x, 2, 7, 6);
        x.set(1, 5, 3);
        x.combine(2, 0, 1, 4);
        Due.fraction(x, 2, 8, 7);
        Due.is("the target is the first one", x.combine(0, 0, 1, 0), 1);
        Due.fraction(x, 0, 29, 12);
        Due.is("the target is the second one", x.combine(1, 0, 1, 1), 1);
        Due.fraction(x, 1, 3, 4);
        Due.is("the target is both", x.combine(1, 1, 1, 3), 1);
        Due.fraction(x, 1, 1, 1);
        x.set(0, 500000, 999999);
        Due.is("the greatest sum", x.combine(2, 0, 0, 0), 1);
        Due.fraction(x, 2, 1000000, 999999);
    }

    private static void promise6CombineErrors() {
        SternBrocotExplorer x = new SternBrocotExplorer();
        int[][] wrong = {{-1, 0, 0, 1}, {8, 0, 0, 1}, {0, -1, 0, 0}, {0, 8, 0, 0}, {0, 0, -1, 0}, {0, 0, 8, 0},
            {0, 0, 0, -1}, {0, 0, 0, 5}, {MIN, 0, 0, 0}, {0, 0, 0, MAX}};
        for (int[] each : wrong) {
            Due.is("combine" + java.util.Arrays.toString(each),
                    x.combine(each[0], each[1], each[2], each[3]), BAD);
        }
        x.set(0, 1, 3);
        x.set(1, 1, 2);
        x.set(2, 9, 8);
        Due.is("a negative difference", x.combine(2, 0, 1, 1), -4);
        Due.is("a difference of 0", x.combine(2, 1, 1, 1), -4);
        Due.fraction(x, 2, 9, 8);
        x.set(0, 1, 1000000);
        x.set(1, 999999, 1000000);
        Due.is("a sum of 1", x.combine(3, 0, 1, 0), 1);
        Due.fraction(x, 3, 1, 1);
        x.set(1, 1, 999999);
        for (int operation : new int[] {0, 2}) {
            Due.is("too large by " + operation, x.combine(2, 0, 1, operation), -3);
            Due.fraction(x, 2, 9, 8);
        }
        Due.is("a difference that is too large", x.combine(2, 1, 0, 1), -3);
        Due.is("a negative difference of large denominators", x.combine(2, 0, 1, 1), -4);
        Due.is("a mediant that is too large", x.combine(2, 0, 1, 4), -3);
        x.set(4, 1000000, 1);
        Due.is("a quotient that is too large", x.combine(2, 4, 0, 3), -3);
        Due.is("a product that is too large", x.combine(2, 4, 4, 2), -3);
        Due.is("a quotient of 1", x.combine(2, 4, 4, 3), 1);
        Due.fraction(x, 2, 1, 1);
        Due.is("a mediant of 2000000 / 2", x.combine(2, 4, 4, 4), 1);
        Due.fraction(x, 2, 1000000, 1);
    }

    private static void promise7Determinant() {
        SternBrocotExplorer x = new SternBrocotExplorer();
        x.set(0, 3, 2);
        x.set(1, 5, 7);
        Due.is("determinant(3/2, 5/7)", x.determinant(0, 1), 11);
        Due.is("determinant(5/7, 3/2)", x.determinant(1, 0), -11);
        Due.is("determinant(0, 0)", x.determinant(0, 0), 0);
        x.set(0, 1000000, 1);
        x.set(1, 1, 1000000);
        Due.is("the greatest determinant", x.determinant(0, 1), 999999999999L);
        Due.is("the least determinant", x.determinant(1, 0), -999999999999L);
        Due.is("determinant(-1, 0)", x.determinant(-1, 0), Long.MIN_VALUE);
        Due.is("determinant(0, 8)", x.determinant(0, 8), Long.MIN_VALUE);
        Due.is("determinant(8, 0)", x.determinant(8, 0), Long.MIN_VALUE);
    }
}
