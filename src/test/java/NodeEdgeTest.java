/** Promises 39 to 41 at their boundaries: slots, arithmetic that wraps around, and casts. */
final class NodeEdgeTest {
    private static final int BAD = -1;
    private static final int EMPTY_SLOT = -11;
    private static final int WRONG_KIND = -12;
    private static final int MIN = Integer.MIN_VALUE;
    private static final int MAX = Integer.MAX_VALUE;

    private NodeEdgeTest() {
    }

    public static void main(String[] args) {
        promise39EmptyAndHeldSlots();
        promise39KindMinusOne();
        promise39TheFractionNeverChanges();
        promise40EmptySlots();
        promise40NodesThatWrapAround();
        promise40BranchesThatWrapAround();
        promise40TwigsThatWrapAround();
        promise40LeavesThatWrapAround();
        promise40RootsThatWrapAround();
        promise40TheGreatestFractions();
        promise41EveryKindToEveryKind();
        promise41TheOrderOfErrors();
        Due.end();
    }

    private static void promise39EmptyAndHeldSlots() {
        SternBrocotExplorer x = new SternBrocotExplorer();
        for (int slot = 0; slot < 5; slot++) {
            Due.is("plant into the empty slot " + slot, x.plant(slot, slot, 0), 0);
            Due.is("slots that hold a node", x.count(2), slot + 1);
        }
        for (int slot = 0; slot < 5; slot++) {
            Due.is("plant into the held slot " + slot, x.plant(slot, 4 - slot, 0), 1);
            Due.is("slots that hold a node still", x.count(2), 5);
            Due.is("the kind in the slot " + slot, x.castNode(slot, 0), 4 - slot);
        }
    }

    private static void promise39KindMinusOne() {
        SternBrocotExplorer x = new SternBrocotExplorer();
        Due.is("emptying an empty slot", x.plant(0, -1, 0), 0);
        Due.is("no slot holds a node", x.count(2), 0);
        Due.is("plant after that", x.plant(0, 3, 0), 0);
        Due.is("emptying a held slot", x.plant(0, -1, 0), 1);
        Due.is("it is empty", x.castNode(0, 0), EMPTY_SLOT);
        Due.is("emptying it again", x.plant(0, -1, 0), 0);
        Due.is("plant into it again", x.plant(0, 1, 0), 0);
        for (int wrong : new int[] {-1, 8, MIN, MAX}) {
            Edge.refuses("emptying a held slot with a wrong register", BAD, y -> y.plant(0, -1, wrong));
            Edge.refuses("emptying an empty slot with a wrong register", BAD, y -> y.plant(4, -1, wrong));
        }
    }

    private static void promise39TheFractionNeverChanges() {
        Edge.answers("grow after its register was set", x -> {
            x.plant(4, 0, 5);
            x.set(5, 1, 999999);
        }, 27, x -> x.operate(4, 0, 10));
        Edge.answers("bend after its register was set", x -> {
            x.plant(4, 0, 5);
            x.set(5, 1, 999999);
        }, 69, x -> x.operate(4, 1, 10));
        Edge.answers("grow after another node got another fraction", x -> {
            x.plant(4, 0, 5);
            x.plant(3, 0, 0);
        }, 27, x -> x.operate(4, 0, 10));
    }

    private static void promise40EmptySlots() {
        SternBrocotExplorer x = new SternBrocotExplorer();
        for (int slot = 0; slot < 5; slot++) {
            for (int operation = -1; operation <= 2; operation++) {
                Due.is("operate " + operation + " of the empty slot " + slot, x.operate(slot, operation, 5), 0);
            }
        }
        x.plant(2, 0, 0);
        for (int slot = 0; slot < 5; slot++) {
            Due.is("grow of slot " + slot, x.operate(slot, 0, 5), slot == 2 ? 6 : 0);
            Due.is("bend of slot " + slot, x.operate(slot, 1, 5), slot == 2 ? 17 : 0);
        }
        x.plant(2, -1, 0);
        Due.is("grow of a slot that was emptied", x.operate(2, 0, 5), 0);
        Due.is("bend of a slot that was emptied", x.operate(2, 1, 5), 0);
    }

    private static void grows(int kind, int argument, int due) {
        Edge.answers("grow of kind " + kind + " for " + argument, x -> x.plant(4, kind, 7), due,
                x -> x.operate(4, 0, argument));
    }

    private static void bends(int kind, int argument, int due) {
        Edge.answers("bend of kind " + kind + " for " + argument, x -> x.plant(4, kind, 7), due,
                x -> x.operate(4, 1, argument));
    }

    // The nodes have the fraction 22/7.

    private static void promise40NodesThatWrapAround() {
        grows(0, MAX - 23, MAX - 1);
        grows(0, MAX - 22, MAX);
        grows(0, MAX - 21, MIN);
        grows(0, MAX, MIN + 21);
        grows(0, MIN, MIN + 22);
        grows(0, -22, 0);
        // 715827882 * 3 is one less than the greatest int, and -715827882 * 3 two more than the least one.
        bends(0, 715827882 - 22, MAX - 1 - 7);
        bends(0, 715827883 - 22, MIN + 1 - 7 + 0);
        bends(0, 715827885 - 22, MIN + 7 - 7);
        bends(0, -715827882 - 22, MIN + 2 - 7);
        bends(0, -715827880 - 22, MIN + 1);
        bends(0, MAX - 22, MAX - 2 - 7);
        bends(0, MAX - 21, MIN - 7);
        bends(0, -22, -7);
    }

    private static void promise40BranchesThatWrapAround() {
        grows(1, 1073741823, MIN + 20);
        grows(1, 1073741812, MAX - 1);
        grows(1, 1073741813, MIN);
        grows(1, 1073741824, MIN + 22);
        grows(1, -1073741824, MIN + 22);
        grows(1, -1073741825, MAX - 1 + 22);
        grows(1, MAX, 20);
        grows(1, MIN, 22);
        bends(1, 357913930, MAX - 1 - 7);
        bends(1, MIN, 59);
        bends(1, MAX, 53);
    }

    private static void promise40TwigsThatWrapAround() {
        grows(2, 1073741812, MAX - 1);
        grows(2, 1073741813, MIN);
        grows(2, MIN, 22);
        // What bend of BRANCH takes away is added again, beyond the least int and back.
        bends(2, -357913952, MIN + 2);
        bends(2, 357913930, MAX - 1);
        bends(2, 357913931, MIN + 4);
        bends(2, MIN, 66);
        bends(2, MAX, 60);
    }

    private static void promise40LeavesThatWrapAround() {
        grows(3, 1073741812, MAX - 1 ^ 5);
        grows(3, 1073741813, MIN + 5);
        grows(3, MIN, 22 ^ 5);
        grows(3, MAX, 20 ^ 5);
        grows(3, -11, 5);
        grows(3, -9, 1);
        // Its own grow is taken twice, once for the argument and once within the bend of NODE.
        bends(3, -11, (10 + 22 ^ 5) * 3);
        bends(3, MIN, (2 * 19 + 22 ^ 5) * 3);
        bends(3, MAX, (2 * 17 + 22 ^ 5) * 3);
        bends(3, 536870906, leafBend(536870906));
        bends(3, 1073741813, leafBend(1073741813));
    }

    /** Computed without wrap-around and cut to 32 bits at the end of each step. */
    private static int leafBend(int argument) {
        long grown = (int) (argument * 2L + 22) ^ 5;
        long again = (int) (grown * 2L + 22) ^ 5;
        return (int) (again * 3L - 7 + 7);
    }

    private static void promise40RootsThatWrapAround() {
        grows(4, MAX - 22, -MAX);
        grows(4, MAX - 21, MIN);
        grows(4, MAX - 20, MAX);
        grows(4, MIN, MAX - 21);
        grows(4, -22, 0);
        bends(4, -22, -7);
        bends(4, MAX - 21, MIN - 7);
        bends(4, MIN, (MAX - 21) * 3 - 7);
        bends(4, -715827882 - 22, MAX - 1 - 7);
    }

    private static void promise40TheGreatestFractions() {
        Edge.Calls before = Edge.registers(1000000, 999999);
        int[] grown = {1000001, 1000002, 1000002, 1000007, -1000001};
        int[] bent = {2000004, 2000007, 3000006, 0, -4000002};
        grown[3] = 1000002 ^ 5;
        bent[3] = (2 * grown[3] + 1000000 ^ 5) * 3;
        for (int kind = 0; kind <= 4; kind++) {
            int own = kind;
            Edge.Calls planted = Edge.both(before, x -> x.plant(4, own, 0));
            Edge.answers("grow of a great fraction", planted, grown[kind], x -> x.operate(4, 0, 1));
            Edge.answers("bend of a great fraction", planted, bent[kind], x -> x.operate(4, 1, 1));
        }
    }

    private static void promise41EveryKindToEveryKind() {
        String[] casts = {"10000", "11000", "11100", "11110", "10001"};
        for (int own = 0; own <= 4; own++) {
            for (int kind = 0; kind <= 4; kind++) {
                int planted = own;
                int asked = kind;
                Edge.answers("castNode of " + own + " to " + kind, x -> x.plant(4, planted, 0),
                        casts[own].charAt(kind) == '1' ? own : WRONG_KIND, x -> x.castNode(4, asked));
            }
        }
    }

    private static void promise41TheOrderOfErrors() {
        for (int kind = 0; kind <= 4; kind++) {
            int asked = kind;
            Edge.refuses("castNode of an empty slot to " + kind, EMPTY_SLOT, x -> x.castNode(4, asked));
            Edge.refuses("castNode of a slot that was emptied to " + kind, x -> x.plant(0, -1, 0), EMPTY_SLOT,
                    x -> x.castNode(0, asked));
        }
        Edge.refuses("a wrong kind of an empty slot", BAD, x -> x.castNode(4, 5));
        Edge.refuses("kind -1 of an empty slot", BAD, x -> x.castNode(4, -1));
        Edge.refuses("kind -1 of a held slot", BAD, x -> x.castNode(0, -1));
        Edge.refuses("a wrong slot and a wrong kind", BAD, x -> x.castNode(5, 5));
    }
}
