/** Promises 42 to 45: arrays. */
final class ArrayTest {
    private static final int BAD = SternBrocotExplorer.BAD_ARGUMENT;
    private static final int TOO_LARGE = SternBrocotExplorer.TOO_LARGE;
    private static final int MIN = Integer.MIN_VALUE;
    private static final int MAX = Integer.MAX_VALUE;

    private ArrayTest() {
    }

    public static void main(String[] args) {
        promise42NewArray();
        promise43SetElement();
        promise44Element();
        promise45FillArray();
        promise45FillArrayErrors();
        Due.end();
    }

    private static void promise42NewArray() {
        SternBrocotExplorer x = new SternBrocotExplorer();
        for (int array = 0; array < 3; array++) {
            Due.is("newArray of 60", x.newArray(array, 60), 1);
            Due.is("count(3)", x.count(3), array + 1);
            Due.is("its last element", x.element(array, 59), 0);
            Due.is("behind it", x.element(array, 60), Long.MIN_VALUE);
            x.setElement(array, 59, 7);
            x.setElement(array, 0, 8);
        }
        Due.is("another array is its own", x.newArray(1, 60), 1);
        Due.is("its first element", x.element(1, 0), 0);
        Due.is("its last element", x.element(1, 59), 0);
        Due.is("the element of another array", x.element(0, 59), 7);
        Due.is("newArray of 0", x.newArray(0, 0), 1);
        Due.is("its element", x.element(0, 0), Long.MIN_VALUE);
        Due.is("setElement of it", x.setElement(0, 0, 1), -13);
        Due.is("it is not null", x.count(3), 3);
        Due.is("newArray of 1 again", x.newArray(0, 1), 1);
        Due.is("only zeros", x.element(0, 0), 0);
        Due.is("null", x.newArray(0, -1), 1);
        Due.is("count(3) then", x.count(3), 2);
        Due.is("setElement of null", x.setElement(0, 0, 1), -11);
        int[][] wrong = {{-1, 1}, {3, 1}, {1, 61}, {1, MAX}, {MIN, 1}, {3, -2}, {-1, MIN}, {-1, -1}, {3, 61}};
        for (int[] each : wrong) {
            Due.is("newArray" + java.util.Arrays.toString(each), x.newArray(each[0], each[1]), BAD);
        }
        Due.is("newArray(2, -2)", x.newArray(2, -2), -14);
        Due.is("newArray(2, MIN)", x.newArray(2, MIN), -14);
        Due.is("the array stays", x.element(2, 0), 8);
    }

    private static void promise43SetElement() {
        SternBrocotExplorer x = new SternBrocotExplorer();
        x.newArray(1, 3);
        Due.is("setElement(1, 0, MIN)", x.setElement(1, 0, MIN), 1);
        Due.is("setElement(1, 2, MAX)", x.setElement(1, 2, MAX), 1);
        Due.is("element(1, 0)", x.element(1, 0), MIN);
        Due.is("element(1, 1)", x.element(1, 1), 0);
        Due.is("element(1, 2)", x.element(1, 2), MAX);
        for (int index : new int[] {-1, 3, 60, MIN, MAX}) {
            Due.is("setElement(1, " + index + ", 5)", x.setElement(1, index, 5), -13);
        }
        Due.is("a null array", x.setElement(0, 0, 5), -11);
        Due.is("a null array and a wrong index", x.setElement(0, -1, 5), -11);
        Due.is("setElement(-1, 0, 5)", x.setElement(-1, 0, 5), BAD);
        Due.is("setElement(3, -1, 5)", x.setElement(3, -1, 5), BAD);
        Due.is("element(1, 0) stays", x.element(1, 0), MIN);
    }

    private static void promise44Element() {
        SternBrocotExplorer x = new SternBrocotExplorer();
        x.newArray(2, 2);
        x.setElement(2, 1, -1);
        Due.is("element(2, 1)", x.element(2, 1), -1);
        Due.is("element(2, 0)", x.element(2, 0), 0);
        int[][] wrong = {{-1, 0}, {3, 0}, {2, -1}, {2, 2}, {0, 0}, {MIN, 0}, {MAX, 0}, {2, MIN}, {2, MAX}, {0, -1}};
        for (int[] each : wrong) {
            Due.is("element" + java.util.Arrays.toString(each), x.element(each[0], each[1]), Long.MIN_VALUE);
        }
    }

    private static void fills(SternBrocotExplorer x, int what, int... values) {
        Due.is("fillArray of " + what, x.fillArray(1, 0, what), values.length);
        for (int i = 0; i < values.length; i++) {
            Due.is("element " + i + " of " + what, x.element(1, i), values[i]);
        }
        Due.is("behind them", x.element(1, values.length), Long.MIN_VALUE);
    }

    private static void promise45FillArray() {
        SternBrocotExplorer x = new SternBrocotExplorer();
        fills(x, 0, 1);
        fills(x, 1, 0, 1);
        fills(x, 2);
        Due.is("an array without elements is not null", x.count(3), 1);
        x.set(0, 5, 7);
        fills(x, 0, 0, 1, 2, 2);
        fills(x, 1, 0, 0, 1, 0, 1, 0, 0, 1, 0, 1, 0, 1);
        fills(x, 2, 0, 1, 1, 0);
        x.setElement(1, 0, 9);
        Due.is("newArray after fillArray", x.newArray(1, 60), 1);
        Due.is("has only zeros", x.element(1, 1), 0);
        x.set(0, 61, 1);
        Due.is("60 steps", x.fillArray(1, 0, 2), 60);
        Due.is("the last step", x.element(1, 59), 1);
        x.set(0, 7, 53);
        Due.is("60 letters", x.fillArray(1, 0, 1), 60);
        Due.is("the last letter", x.element(1, 59), 1);
        x.set(0, 832040, 514229);
        Due.is("many terms", x.fillArray(0, 0, 0), 28);
        Due.is("the last term", x.element(0, 27), 2);
    }

    private static void promise45FillArrayErrors() {
        SternBrocotExplorer x = new SternBrocotExplorer();
        x.newArray(1, 2);
        x.setElement(1, 1, 77);
        x.set(0, 62, 1);
        Due.is("61 steps", x.fillArray(1, 0, 2), TOO_LARGE);
        Due.is("63 letters", x.fillArray(1, 0, 1), TOO_LARGE);
        x.set(2, 30, 31);
        Due.is("61 letters", x.fillArray(1, 2, 1), TOO_LARGE);
        Due.is("too many for a null array", x.fillArray(0, 0, 2), TOO_LARGE);
        Due.is("the null array stays", x.count(3), 1);
        int[][] wrong = {{-1, 0, 0}, {3, 0, 0}, {1, -1, 0}, {1, 8, 0}, {1, 0, -1}, {1, 0, 3}, {3, 0, 2}, {1, 0, MAX}};
        for (int[] each : wrong) {
            Due.is("fillArray" + java.util.Arrays.toString(each), x.fillArray(each[0], each[1], each[2]), BAD);
        }
        Due.is("the array stays", x.element(1, 1), 77);
        Due.is("and its length", x.element(1, 2), Long.MIN_VALUE);
        Due.is("the register stays", x.numerator(0), 62);
    }
}
