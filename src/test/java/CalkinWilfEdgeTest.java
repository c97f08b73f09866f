/** Promises 27 to 29 at their boundaries: indexes of the Calkin-Wilf sequence. */
final class CalkinWilfEdgeTest {
    private static final int BAD = -1;
    private static final int TOO_LARGE = -3;
    private static final long GREATEST = Long.MAX_VALUE;

    private CalkinWilfEdgeTest() {
    }

    public static void main(String[] args) {
        promise27TheFirstIndexes();
        promise27TheGreatestDepth();
        promise27DepthsThatAreTooGreat();
        promise28TheEndsOfTheIndex();
        promise28TheGreatestNumbers();
        promise28NumbersThatAreTooLarge();
        promise29WholeNumbersAndNumbersBelowOne();
        promise29TheGreatestNumbers();
        promise29NumbersThatAreTooLarge();
        promise29TheTargetMayBeTheSource();
        Due.end();
    }

    private static void index(int top, int bottom, long due) {
        Edge.answers("calkinWilfIndex of " + top + "/" + bottom, Edge.registers(top, bottom), due,
                x -> x.calkinWilfIndex(0));
    }

    private static void promise27TheFirstIndexes() {
        index(1, 1, 1);
        index(1, 2, 2);
        index(2, 1, 3);
        index(1, 3, 4);
        index(3, 2, 5);
        index(2, 3, 6);
        index(3, 1, 7);
    }

    private static void promise27TheGreatestDepth() {
        index(31, 1, (1L << 31) - 1);
        index(32, 1, (1L << 32) - 1);
        index(33, 1, (1L << 33) - 1);
        index(1, 32, 1L << 31);
        index(1, 33, 1L << 32);
        index(60, 1, (1L << 60) - 1);
        index(61, 1, (1L << 61) - 1);
        index(1, 60, 1L << 59);
        index(1, 61, 1L << 60);
        index(61, 60, (1L << 60) + 1);
        index(60, 61, (1L << 61) - 2);
        index(1000000, 300331, 627759532449202119L);
        index(300331, 1000000, 1101622724461068344L);
        index(999999, 300332, 1166466903745494983L);
        index(300332, 999999, 2292297610075045944L);
    }

    private static void promise27DepthsThatAreTooGreat() {
        index(62, 1, TOO_LARGE);
        index(63, 1, TOO_LARGE);
        index(1, 62, TOO_LARGE);
        index(62, 61, TOO_LARGE);
        index(61, 62, TOO_LARGE);
        index(1000000, 300279, TOO_LARGE);
        index(300279, 1000000, TOO_LARGE);
        index(1000000, 1, TOO_LARGE);
        index(1, 1000000, TOO_LARGE);
        index(999999, 1000000, TOO_LARGE);
        index(1000000, 999999, TOO_LARGE);
    }

    /** Register 6 is set to the fraction, or stays if the numerator is an error code. */
    private static void fraction(long index, int top, int bottom) {
        String told = "fromCalkinWilf of " + index;
        if (top < 0) {
            Edge.refuses(told, top, x -> x.fromCalkinWilf(6, index));
        } else {
            Edge.sets(told, Edge.NOTHING, 1, x -> x.fromCalkinWilf(6, index), 6, top, bottom);
        }
    }

    private static void promise28TheEndsOfTheIndex() {
        fraction(0, BAD, 0);
        fraction(-1, BAD, 0);
        fraction(-20, BAD, 0);
        fraction(Long.MIN_VALUE, BAD, 0);
        fraction(Long.MIN_VALUE + 1, BAD, 0);
        // Its lower half alone would be 1.
        fraction(-4294967295L, BAD, 0);
        fraction(1, 1, 1);
        fraction(2, 1, 2);
        fraction(3, 2, 1);
        fraction((1L << 31) - 1, 31, 1);
        fraction(1L << 31, 1, 32);
        fraction((1L << 31) + 1, 32, 31);
        fraction((1L << 32) - 1, 32, 1);
        fraction(1L << 32, 1, 33);
        fraction((1L << 32) + 1, 33, 32);
        fraction((1L << 62) - 1, 62, 1);
        fraction(1L << 62, 1, 63);
        fraction((1L << 62) + 1, 63, 62);
        fraction(GREATEST - 1, 62, 63);
        fraction(GREATEST, 63, 1);
    }

    private static void promise28TheGreatestNumbers() {
        fraction(1756048087, 999999, 275267);
        fraction(1465177384, 275267, 999999);
        fraction(1381608279, 1000000, 276229);
        fraction(1839617192, 276229, 1000000);
        fraction(627759532449202119L, 1000000, 300331);
        fraction(2292297610075045944L, 300332, 999999);
        fraction(4067601485515456455L, 1000000, 300279);
        fraction(357913941, 832040, 514229);
    }

    private static void promise28NumbersThatAreTooLarge() {
        fraction(1498569367, TOO_LARGE, 0);
        fraction(1722656104, TOO_LARGE, 0);
        fraction(715827882, TOO_LARGE, 0);
        fraction(6148914691236517205L, TOO_LARGE, 0);
        for (int wrong : new int[] {-1, 8}) {
            Edge.refuses("a wrong target and a large number", BAD, x -> x.fromCalkinWilf(wrong, 715827882));
            Edge.refuses("a wrong target and the index 0", BAD, x -> x.fromCalkinWilf(wrong, 0));
        }
    }

    private static void next(int p, int q, int top, int bottom) {
        String told = "calkinWilfNext of " + p + "/" + q;
        Edge.Calls before = Edge.registers(p, q);
        if (top < 0) {
            Edge.refuses(told, before, top, x -> x.calkinWilfNext(6, 0));
        } else {
            Edge.sets(told, before, 1, x -> x.calkinWilfNext(6, 0), 6, top, bottom);
        }
    }

    private static void promise29WholeNumbersAndNumbersBelowOne() {
        next(1, 1, 1, 2);
        next(1, 2, 2, 1);
        next(2, 1, 1, 3);
        next(1, 3, 3, 2);
        next(3, 2, 2, 3);
        next(2, 3, 3, 1);
        next(3, 1, 1, 4);
        next(999999, 1000000, 1000000, 1);
        next(1, 1000000, 1000000, 999999);
    }

    private static void promise29TheGreatestNumbers() {
        next(999998, 1, 1, 999999);
        next(999999, 1, 1, 1000000);
        next(500003, 500001, 500001, 1000000);
        next(500005, 500001, 500001, 999998);
        next(999999, 2, 2, 999999);
        next(1, 999999, 999999, 999998);
        next(499999, 1000000, 1000000, 500001);
    }

    private static void promise29NumbersThatAreTooLarge() {
        next(1000000, 1, TOO_LARGE, 0);
        next(500002, 500001, TOO_LARGE, 0);
        next(1000000, 999999, TOO_LARGE, 0);
        next(1000000, 3, TOO_LARGE, 0);
        for (int wrong : new int[] {-1, 8}) {
            Edge.refuses("a wrong target and a large number", Edge.registers(1000000, 1), BAD,
                    x -> x.calkinWilfNext(wrong, 0));
        }
    }

    private static void promise29TheTargetMayBeTheSource() {
        Edge.sets("calkinWilfNext onto its source", Edge.NOTHING, 1, x -> x.calkinWilfNext(0, 0), 0, 30, 47);
        Edge.refuses("a large number onto its source", Edge.registers(1000000, 1), TOO_LARGE,
                x -> x.calkinWilfNext(0, 0));
    }
}
