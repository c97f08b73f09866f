/** Compares answers with those that are due, and ends a test with exit code 1 if one differed. */
final class Due {
    private static final int SHOWN = 50;
    private static int compared = 0;
    private static int wrong = 0;

    private Due() {
    }

    static void is(String call, long got, long want) {
        compared++;
        if (got != want) {
            tellWrong(call + " answered " + got + ", due is " + want);
        }
    }

    static void holds(String what, boolean holds) {
        compared++;
        if (!holds) {
            tellWrong(what);
        }
    }

    private static void tellWrong(String what) {
        wrong++;
        if (wrong <= SHOWN) {
            System.out.println(what);
        }
    }

    /** A register's fraction is looked at with both of its methods. */
    static void fraction(SternBrocotExplorer x, int register, int top, int bottom) {
        is("numerator(" + register + ") for " + top + "/" + bottom, x.numerator(register), top);
        is("denominator(" + register + ") for " + top + "/" + bottom, x.denominator(register), bottom);
    }

    static void end() {
        System.out.println(compared + " compared, " + wrong + " wrong");
        if (compared == 0 || wrong != 0) {
            System.exit(1);
        }
    }
}
