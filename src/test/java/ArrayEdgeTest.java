/** Promises 42 to 45 at their boundaries: null, empty and full arrays, and what fills them. */
final class ArrayEdgeTest {
    private static final int BAD = -1;
    private static final int TOO_LARGE = -3;
    private static final int EMPTY_SLOT = -11;
    private static final int INDEX_OUT_OF_RANGE = -13;
    private static final int NEGATIVE_SIZE = -14;
    private static final int MIN = Integer.MIN_VALUE;
    private static final int MAX = Integer.MAX_VALUE;

    private ArrayEdgeTest() {
    }

    public static void main(String[] args) {
        promise42TheEndsOfTheSize();
        promise42SizesThatAreRefused();
        promise42OnlyZeros();
        promise42Null();
        promise42TheOrderOfErrors();
        promise43TheFirstAndTheLastIndex();
        promise43TheEndsOfTheValues();
        promise43OneElementAlone();
        promise43TheOrderOfErrors();
        promise44TheFirstAndTheLastIndex();
        promise44EmptyAndNullArrays();
        promise44TheLeastElement();
        promise45OneValueAndNone();
        promise45TheMostTerms();
        promise45SixtyLetters();
        promise45SixtySteps();
        promise45MoreThanSixtyValues();
        promise45AnArrayIsReplaced();
        promise45TheOrderOfErrors();
        Due.end();
    }

    /** Looks at every index at which an array may have an element, and around its ends. */
    private static void holds(String told, SternBrocotExplorer x, int array, int... elements) {
        int size = elements.length;
        Due.is(told + ": setElement in front", x.setElement(array, -1, 5), INDEX_OUT_OF_RANGE);
        Due.is(told + ": setElement behind", x.setElement(array, size, 5), INDEX_OUT_OF_RANGE);
        for (int index = 0; index < size; index++) {
            Due.is(told + ": element " + index, x.element(array, index), elements[index]);
        }
        for (int index = size; index <= 61; index++) {
            Due.is(told + ": element " + index, x.element(array, index), Long.MIN_VALUE);
        }
        for (int index : new int[] {-1, -2, MIN, MAX}) {
            Due.is(told + ": element " + index, x.element(array, index), Long.MIN_VALUE);
        }
    }

    private static void isNull(String told, SternBrocotExplorer x, int array) {
        for (int index : new int[] {-1, 0, 1, 59, 60}) {
            Due.is(told + ": setElement " + index, x.setElement(array, index, 5), EMPTY_SLOT);
            Due.is(told + ": element " + index, x.element(array, index), Long.MIN_VALUE);
        }
        Due.is(told + ": recognizeWord", x.recognizeWord(7, array), EMPTY_SLOT);
    }

    private static int[] all(int value, int size) {
        int[] elements = new int[size];
        java.util.Arrays.fill(elements, value);
        return elements;
    }

    private static void setAll(SternBrocotExplorer x, int array, int size, int value) {
        for (int index = 0; index < size; index++) {
            Due.is("setElement " + index, x.setElement(array, index, value), 1);
        }
    }

    private static void promise42TheEndsOfTheSize() {
        for (int size : new int[] {0, 1, 2, 59, 60}) {
            for (int array = 0; array < 3; array++) {
                SternBrocotExplorer x = new SternBrocotExplorer();
                String told = "array " + array + " of size " + size;
                Due.is(told, x.newArray(array, size), 1);
                holds(told, x, array, new int[size]);
                Due.is(told + ": arrays that are not null", x.count(3), 1);
                for (int other = 0; other < 3; other++) {
                    if (other != array) {
                        isNull(told + ", but array " + other, x, other);
                    }
                }
            }
        }
    }

    private static void promise42SizesThatAreRefused() {
        for (int array = 0; array < 3; array++) {
            int slot = array;
            for (int wrong : new int[] {61, 62, 1000000, MAX}) {
                Edge.refuses("newArray(" + slot + ", " + wrong + ")", BAD, x -> x.newArray(slot, wrong));
            }
            for (int wrong : new int[] {-2, -3, -60, MIN}) {
                Edge.refuses("newArray(" + slot + ", " + wrong + ")", NEGATIVE_SIZE, x -> x.newArray(slot, wrong));
            }
        }
    }

    private static void promise42OnlyZeros() {
        SternBrocotExplorer x = new SternBrocotExplorer();
        for (int array = 0; array < 3; array++) {
            x.newArray(array, 60);
            setAll(x, array, 60, 7);
        }
        for (int size : new int[] {60, 59, 1}) {
            Due.is("a new array over another of size " + size, x.newArray(1, size), 1);
            holds("only zeros of size " + size, x, 1, new int[size]);
            setAll(x, 1, size, 7);
        }
        x.newArray(1, 60);
        holds("a long array after a short one", x, 1, new int[60]);
        setAll(x, 1, 60, 7);
        x.newArray(1, 0);
        x.newArray(1, 60);
        holds("a long array after an empty one", x, 1, new int[60]);
        setAll(x, 1, 60, 7);
        x.newArray(1, -1);
        x.newArray(1, 60);
        holds("a long array after null", x, 1, new int[60]);
        x.set(0, 59, 1);
        x.fillArray(1, 0, 1);
        x.newArray(1, 60);
        holds("a long array after letters", x, 1, new int[60]);
        holds("the array before it", x, 0, all(7, 60));
        holds("the array behind it", x, 2, all(7, 60));
    }

    private static void promise42Null() {
        Edge.answers("null instead of null", Edge.NOTHING, 1, x -> x.newArray(2, -1));
        for (int size : new int[] {0, 1, 60}) {
            SternBrocotExplorer x = new SternBrocotExplorer();
            for (int array = 0; array < 3; array++) {
                x.newArray(array, size);
            }
            for (int array = 0; array < 3; array++) {
                Due.is("null instead of an array of size " + size, x.newArray(array, -1), 1);
                isNull("array " + array + " that had size " + size, x, array);
                Due.is("arrays that are not null", x.count(3), 2 - array);
                Due.is("null a second time", x.newArray(array, -1), 1);
                Due.is("arrays that are not null still", x.count(3), 2 - array);
            }
        }
    }

    private static void promise42TheOrderOfErrors() {
        for (int array : new int[] {-1, 3, MIN, MAX}) {
            for (int size : new int[] {MIN, -2, -1, 0, 60, 61, MAX}) {
                Edge.refuses("newArray(" + array + ", " + size + ")", BAD, x -> x.newArray(array, size));
            }
        }
    }

    private static void promise43TheFirstAndTheLastIndex() {
        for (int size : new int[] {0, 1, 2, 59, 60}) {
            Edge.Calls before = x -> x.newArray(2, size);
            for (int wrong : new int[] {-1, -2, size, size + 1, 60, 61, MIN, MAX}) {
                Edge.refuses("setElement " + wrong + " of " + size, before, INDEX_OUT_OF_RANGE,
                        x -> x.setElement(2, wrong, 5));
            }
            for (int index = 0; index < size; index += size > 2 ? size - 1 : 1) {
                SternBrocotExplorer x = new SternBrocotExplorer();
                x.newArray(2, size);
                int[] due = new int[size];
                due[index] = 5;
                Due.is("setElement " + index + " of " + size, x.setElement(2, index, 5), 1);
                holds("element " + index + " alone was set", x, 2, due);
            }
        }
    }

    private static void promise43TheEndsOfTheValues() {
        for (int value : new int[] {MIN, MIN + 1, -1, 0, 1, 1000001, MAX - 1, MAX}) {
            SternBrocotExplorer x = new SternBrocotExplorer();
            x.newArray(0, 1);
            x.setElement(0, 0, 3);
            Due.is("setElement to " + value, x.setElement(0, 0, value), 1);
            holds("the value " + value, x, 0, value);
        }
    }

    private static void promise43OneElementAlone() {
        SternBrocotExplorer x = new SternBrocotExplorer();
        for (int array = 0; array < 3; array++) {
            x.newArray(array, 3);
        }
        for (int array = 0; array < 3; array++) {
            for (int index = 0; index < 3; index++) {
                Due.is("setElement", x.setElement(array, index, 10 * array + index), 1);
            }
        }
        for (int array = 0; array < 3; array++) {
            holds("array " + array, x, array, 10 * array, 10 * array + 1, 10 * array + 2);
        }
    }

    private static void promise43TheOrderOfErrors() {
        for (int index : new int[] {MIN, -1, 0, 60, MAX}) {
            for (int array : new int[] {-1, 3, MIN, MAX}) {
                Edge.refuses("setElement(" + array + ", " + index + ", 5)", BAD, x -> x.setElement(array, index, 5));
            }
            Edge.refuses("setElement " + index + " of null", EMPTY_SLOT, x -> x.setElement(2, index, 5));
            Edge.refuses("setElement " + index + " of an array that became null", x -> x.newArray(0, -1), EMPTY_SLOT,
                    x -> x.setElement(0, index, 5));
        }
    }

    private static void promise44TheFirstAndTheLastIndex() {
        for (int size : new int[] {1, 2, 59, 60}) {
            Edge.Calls before = x -> {
                x.newArray(2, size);
                x.setElement(2, 0, 8);
                x.setElement(2, size - 1, 9);
            };
            Edge.answers("element 0 of " + size, before, size == 1 ? 9 : 8, x -> x.element(2, 0));
            Edge.answers("the last element of " + size, before, 9, x -> x.element(2, size - 1));
            for (int wrong : new int[] {-1, size, size + 1, MIN, MAX}) {
                Edge.refuses("element " + wrong + " of " + size, before, Long.MIN_VALUE, x -> x.element(2, wrong));
            }
        }
    }

    private static void promise44EmptyAndNullArrays() {
        for (int index : new int[] {MIN, -1, 0, 1, 60, MAX}) {
            Edge.refuses("element " + index + " of an empty array", x -> x.newArray(2, 0), Long.MIN_VALUE,
                    x -> x.element(2, index));
            Edge.refuses("element " + index + " of null", Long.MIN_VALUE, x -> x.element(2, index));
            for (int array : new int[] {-1, 3, MIN, MAX}) {
                Edge.refuses("element(" + array + ", " + index + ")", Long.MIN_VALUE, x -> x.element(array, index));
            }
        }
    }

    private static void promise44TheLeastElement() {
        // It is not what an index out of range answers, because that is the least long.
        Edge.answers("the least int", x -> x.setElement(0, 0, MIN), -2147483648L, x -> x.element(0, 0));
        Edge.answers("the greatest int", x -> x.setElement(0, 0, MAX), 2147483647L, x -> x.element(0, 0));
        Edge.answers("an element like an error code", x -> x.setElement(0, 0, -13), -13, x -> x.element(0, 0));
    }

    private static void fills(int top, int bottom, int what, int... values) {
        String told = "fillArray " + what + " of " + top + "/" + bottom;
        for (int array = 0; array < 3; array++) {
            SternBrocotExplorer x = new SternBrocotExplorer();
            x.set(0, top, bottom);
            Due.is(told, x.fillArray(array, 0, what), values.length);
            holds(told, x, array, values);
            Due.is(told + ": arrays that are not null", x.count(3), 1);
            Due.fraction(x, 0, top, bottom);
        }
    }

    private static void promise45OneValueAndNone() {
        fills(1, 1, 0, 1);
        fills(1, 1, 1, 0, 1);
        fills(1, 1, 2);
        fills(2, 1, 0, 2);
        fills(2, 1, 2, 1);
        fills(1, 2, 0, 0, 2);
        fills(1, 2, 2, 0);
        fills(1000000, 1, 0, 1000000);
        fills(1, 1000000, 0, 0, 1000000);
        fills(43, 30, 0, 1, 2, 3, 4);
        fills(43, 30, 2, 1, 0, 0, 1, 1, 1, 0, 0, 0);
        fills(2, 3, 1, 0, 0, 1, 0, 1);
    }

    private static void promise45TheMostTerms() {
        int[] terms = all(1, 29);
        terms[0] = 0;
        terms[28] = 2;
        fills(514229, 832040, 0, terms);
        int[] fewer = all(1, 28);
        fewer[27] = 2;
        fills(832040, 514229, 0, fewer);
        fills(999999, 1000000, 0, 0, 1, 999999);
    }

    private static void promise45SixtyLetters() {
        for (int size : new int[] {59, 60}) {
            int[] last = new int[size];
            last[size - 1] = 1;
            fills(1, size - 1, 1, last);
            int[] first = all(1, size);
            first[0] = 0;
            fills(size - 1, 1, 1, first);
        }
        int[] letters = new int[60];
        for (int i = 0; i < 60; i++) {
            letters[i] = (i + 1) * 29 % 60 > i * 29 % 60 ? 0 : 1;
        }
        fills(29, 31, 1, letters);
    }

    private static void promise45SixtySteps() {
        for (int steps : new int[] {59, 60}) {
            fills(steps + 1, 1, 2, all(1, steps));
            fills(1, steps + 1, 2, new int[steps]);
            int[] rightFirst = new int[steps];
            rightFirst[0] = 1;
            fills(steps + 1, steps, 2, rightFirst);
            int[] leftFirst = all(1, steps);
            leftFirst[0] = 0;
            fills(steps, steps + 1, 2, leftFirst);
        }
    }

    private static void fillsTooMany(int top, int bottom, int what) {
        for (int array = 0; array < 3; array++) {
            int slot = array;
            Edge.refuses("fillArray(" + slot + ") " + what + " of " + top + "/" + bottom, Edge.registers(top, bottom),
                    TOO_LARGE, x -> x.fillArray(slot, 0, what));
        }
    }

    private static void promise45MoreThanSixtyValues() {
        fillsTooMany(60, 1, 1);
        fillsTooMany(1, 60, 1);
        fillsTooMany(30, 31, 1);
        fillsTooMany(31, 30, 1);
        fillsTooMany(61, 1, 1);
        fillsTooMany(1000000, 999999, 1);
        fillsTooMany(1, 1000000, 1);
        fillsTooMany(62, 1, 2);
        fillsTooMany(1, 62, 2);
        fillsTooMany(62, 61, 2);
        fillsTooMany(61, 62, 2);
        fillsTooMany(63, 1, 2);
        fillsTooMany(1000000, 1, 2);
        fillsTooMany(999999, 1000000, 2);
    }

    private static void promise45AnArrayIsReplaced() {
        SternBrocotExplorer x = new SternBrocotExplorer();
        for (int array = 0; array < 3; array++) {
            x.newArray(array, 60);
            setAll(x, array, 60, 7);
        }
        x.set(0, 2, 9);
        Due.is("terms over 60 elements", x.fillArray(1, 0, 0), 3);
        holds("the terms", x, 1, 0, 4, 2);
        x.set(0, 59, 1);
        Due.is("letters over fewer terms", x.fillArray(1, 0, 1), 60);
        int[] letters = all(1, 60);
        letters[0] = 0;
        holds("the letters", x, 1, letters);
        x.set(0, 3, 2);
        holds("the letters after their register was set", x, 1, letters);
        x.set(0, 1, 1);
        Due.is("no step over letters", x.fillArray(1, 0, 2), 0);
        holds("no step", x, 1);
        x.newArray(1, -1);
        Due.is("letters over null", x.fillArray(1, 0, 1), 2);
        holds("two letters", x, 1, 0, 1);
        holds("the array before it", x, 0, all(7, 60));
        holds("the array behind it", x, 2, all(7, 60));
    }

    private static void promise45TheOrderOfErrors() {
        Edge.Calls before = Edge.registers(1000000, 1);
        for (int what = 1; what <= 2; what++) {
            int now = what;
            Edge.refuses("a wrong array and too many values", before, BAD, x -> x.fillArray(3, 0, now));
            Edge.refuses("a wrong register and too many values", before, BAD, x -> x.fillArray(0, 8, now));
        }
        Edge.refuses("a wrong what and too many values", before, BAD, x -> x.fillArray(0, 0, 3));
        Edge.refuses("a wrong what and one value", before, BAD, x -> x.fillArray(0, 0, -1));
        Edge.refuses("a wrong what for a null array", before, BAD, x -> x.fillArray(2, 0, 3));
    }
}
