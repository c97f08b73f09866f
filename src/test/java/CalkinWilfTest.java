/** Promises 27 to 29: the Calkin-Wilf sequence. */
final class CalkinWilfTest {
    private static final int BAD = SternBrocotExplorer.BAD_ARGUMENT;
    private static final int TOO_LARGE = SternBrocotExplorer.TOO_LARGE;

    private CalkinWilfTest() {
    }

    public static void main(String[] args) {
        promise27CalkinWilfIndex();
        promise28FromCalkinWilf();
        promise29CalkinWilfNext();
        Due.end();
    }

    private static void promise27CalkinWilfIndex() {
        SternBrocotExplorer x = new SternBrocotExplorer();
        int[][] first = {{1, 1}, {1, 2}, {2, 1}, {1, 3}, {3, 2}, {2, 3}, {3, 1}, {1, 4}, {4, 3}, {3, 5}, {5, 2}};
        for (int i = 0; i < first.length; i++) {
            x.set(0, first[i][0], first[i][1]);
            Due.is("calkinWilfIndex of " + first[i][0] + "/" + first[i][1], x.calkinWilfIndex(0), i + 1);
        }
        x.set(0, 61, 1);
        Due.is("the index of 61/1", x.calkinWilfIndex(0), (1L << 61) - 1);
        x.set(0, 1, 61);
        Due.is("the index of 1/61", x.calkinWilfIndex(0), 1L << 60);
        x.set(0, 62, 1);
        Due.is("the index of 62/1", x.calkinWilfIndex(0), TOO_LARGE);
        x.set(0, 1, 62);
        Due.is("the index of 1/62", x.calkinWilfIndex(0), TOO_LARGE);
        x.set(0, 999999, 1000000);
        Due.is("the index of 999999/1000000", x.calkinWilfIndex(0), TOO_LARGE);
        Due.is("calkinWilfIndex(-1)", x.calkinWilfIndex(-1), Long.MIN_VALUE);
        Due.is("calkinWilfIndex(8)", x.calkinWilfIndex(8), Long.MIN_VALUE);
    }

    private static void promise28FromCalkinWilf() {
        SternBrocotExplorer x = new SternBrocotExplorer();
        Due.is("the index 20", x.fromCalkinWilf(0, 20), 1);
        Due.fraction(x, 0, 3, 8);
        Due.is("the index 1", x.fromCalkinWilf(7, 1), 1);
        Due.fraction(x, 7, 1, 1);
        Due.is("the greatest index", x.fromCalkinWilf(1, Long.MAX_VALUE), 1);
        Due.fraction(x, 1, 63, 1);
        Due.is("the greatest power of 2", x.fromCalkinWilf(1, 1L << 62), 1);
        Due.fraction(x, 1, 1, 63);
        Due.is("an index above 2 to the power 32", x.fromCalkinWilf(1, (1L << 40) + 1), 1);
        Due.fraction(x, 1, 41, 40);
        Due.is("steps that alternate", x.fromCalkinWilf(1, 6148914691236517205L), TOO_LARGE);
        // 28 alternating steps lead to 832040/514229, one more is too many.
        Due.is("the last Fibonacci numbers", x.fromCalkinWilf(1, 357913941L), 1);
        Due.fraction(x, 1, 832040, 514229);
        Due.is("Fibonacci numbers that are too large", x.fromCalkinWilf(1, 715827882L), TOO_LARGE);
        Due.fraction(x, 1, 832040, 514229);
        Due.is("fromCalkinWilf(0, 0)", x.fromCalkinWilf(0, 0), BAD);
        Due.is("fromCalkinWilf(0, -1)", x.fromCalkinWilf(0, -1), BAD);
        Due.is("fromCalkinWilf(0, MIN)", x.fromCalkinWilf(0, Long.MIN_VALUE), BAD);
        Due.is("fromCalkinWilf(-1, 1)", x.fromCalkinWilf(-1, 1), BAD);
        Due.is("fromCalkinWilf(8, 6148914691236517205)", x.fromCalkinWilf(8, 6148914691236517205L), BAD);
        Due.fraction(x, 0, 3, 8);
    }

    private static void promise29CalkinWilfNext() {
        SternBrocotExplorer x = new SternBrocotExplorer();
        for (int index = 1; index <= 200; index++) {
            Due.is("the register at " + index, x.calkinWilfIndex(0), index);
            Due.is("calkinWilfNext at " + index, x.calkinWilfNext(0, 0), 1);
        }
        x.set(0, 5, 2);
        Due.is("calkinWilfNext(1, 5/2)", x.calkinWilfNext(1, 0), 1);
        Due.fraction(x, 1, 2, 5);
        Due.fraction(x, 0, 5, 2);
        x.set(0, 999999, 1);
        Due.is("calkinWilfNext(1, 999999/1)", x.calkinWilfNext(1, 0), 1);
        Due.fraction(x, 1, 1, 1000000);
        x.set(0, 1000000, 1);
        Due.is("calkinWilfNext(1, 1000000/1)", x.calkinWilfNext(1, 0), TOO_LARGE);
        Due.fraction(x, 1, 1, 1000000);
        x.set(0, 1000000, 999999);
        Due.is("calkinWilfNext(1, 1000000/999999)", x.calkinWilfNext(1, 0), TOO_LARGE);
        x.set(0, 1, 1000000);
        Due.is("calkinWilfNext(1, 1/1000000)", x.calkinWilfNext(1, 0), 1);
        Due.fraction(x, 1, 1000000, 999999);
        Due.is("calkinWilfNext(-1, 0)", x.calkinWilfNext(-1, 0), BAD);
        Due.is("calkinWilfNext(8, 0)", x.calkinWilfNext(8, 0), BAD);
        Due.is("calkinWilfNext(0, -1)", x.calkinWilfNext(0, -1), BAD);
        Due.is("calkinWilfNext(0, 8)", x.calkinWilfNext(0, 8), BAD);
    }
}
