/** Promises 39 to 41: planting nodes, their operations and their kinds. */
final class NodeTest {
    private static final int BAD = SternBrocotExplorer.BAD_ARGUMENT;
    private static final int MIN = Integer.MIN_VALUE;
    private static final int MAX = Integer.MAX_VALUE;

    private NodeTest() {
    }

    public static void main(String[] args) {
        promise39Plant();
        promise40Operate();
        promise40OperateErrors();
        promise41CastNode();
        Due.end();
    }

    private static void promise39Plant() {
        SternBrocotExplorer x = new SternBrocotExplorer();
        x.set(0, 22, 7);
        Due.is("plant into an empty slot", x.plant(4, 0, 0), 0);
        Due.is("count(2)", x.count(2), 1);
        Due.is("plant into a held slot", x.plant(4, 4, 0), 1);
        Due.is("the new kind", x.castNode(4, 4), 4);
        x.set(0, 1, 2);
        Due.is("the node keeps its fraction", x.operate(4, 0, 0), -22);
        Due.is("empty a held slot", x.plant(4, -1, 0), 1);
        Due.is("count(2) after that", x.count(2), 0);
        Due.is("empty an empty slot", x.plant(4, -1, 0), 0);
        Due.is("castNode after that", x.castNode(4, 0), -11);
        for (int slot = 0; slot < 5; slot++) {
            Due.is("plant into slot " + slot, x.plant(slot, slot, 7), 0);
            Due.is("count(2) at " + slot, x.count(2), slot + 1);
        }
        int[][] wrong = {{-1, 0, 0}, {5, 0, 0}, {0, -2, 0}, {0, 5, 0}, {0, 0, -1}, {0, 0, 8}, {0, -1, 8}, {0, -1, -1},
            {MIN, 0, 0}, {0, MAX, 0}, {0, 0, MIN}};
        for (int[] each : wrong) {
            Due.is("plant" + java.util.Arrays.toString(each), x.plant(each[0], each[1], each[2]), BAD);
            Due.is("count(2) after a wrong one", x.count(2), 5);
            Due.is("slot 0 after a wrong one", x.operate(0, 0, 0), 1);
        }
    }

    private static void operates(SternBrocotExplorer x, int kind, int argument, int grown, int bent) {
        x.plant(0, kind, 0);
        Due.is("grow of kind " + kind + " for " + argument, x.operate(0, 0, argument), grown);
        Due.is("bend of kind " + kind + " for " + argument, x.operate(0, 1, argument), bent);
    }

    private static void promise40Operate() {
        SternBrocotExplorer x = new SternBrocotExplorer();
        x.set(0, 22, 7);
        operates(x, 0, 5, 27, 74);
        operates(x, 1, 5, 32, 89);
        operates(x, 2, 5, 32, 96);
        operates(x, 3, 5, 37, 303);
        operates(x, 4, 5, -27, -88);
        operates(x, 0, -30, -8, -31);
        operates(x, 1, -30, -38, -121);
        operates(x, 2, -30, -38, -114);
        operates(x, 3, -30, -33, -141);
        operates(x, 4, -30, 8, 17);
        operates(x, 0, MAX, MIN + 21, MIN + 56);
        operates(x, 1, MAX, 20, 53);
        operates(x, 2, MIN, 22, 66);
        operates(x, 3, MIN, 19, 171);
        operates(x, 4, MIN, MAX - 21, MAX - 72);
        x.set(0, 1000000, 999999);
        operates(x, 0, 0, 1000000, 2000001);
        operates(x, 1, 1, 1000002, 2000007);
        operates(x, 2, 1, 1000002, 3000006);
        x.plant(1, 0, 7);
        Due.is("another slot", x.operate(1, 0, 41), 42);
    }

    private static void promise40OperateErrors() {
        SternBrocotExplorer x = new SternBrocotExplorer();
        Due.is("operate of an empty slot", x.operate(0, 0, 5), 0);
        x.plant(0, 0, 0);
        int[][] wrong = {{-1, 0}, {5, 0}, {0, -1}, {0, 2}, {MIN, MAX}, {MAX, 0}, {0, MIN}, {1, 0}, {1, 1}, {1, 7}};
        for (int[] each : wrong) {
            Due.is("operate" + java.util.Arrays.toString(each), x.operate(each[0], each[1], 5), 0);
        }
    }

    private static void promise41CastNode() {
        SternBrocotExplorer x = new SternBrocotExplorer();
        String[] casts = {"10000", "11000", "11100", "11110", "10001"};
        for (int own = 0; own <= 4; own++) {
            x.plant(own, own, 0);
            for (int kind = 0; kind <= 4; kind++) {
                int due = casts[own].charAt(kind) == '1' ? own : -12;
                Due.is("castNode of " + own + " to " + kind, x.castNode(own, kind), due);
            }
        }
        x.plant(0, -1, 0);
        Due.is("castNode of an empty slot", x.castNode(0, 0), -11);
        Due.is("castNode of an empty slot to a leaf", x.castNode(0, 3), -11);
        int[][] wrong = {{-1, 0}, {5, 0}, {1, -1}, {1, 5}, {0, -1}, {0, 5}, {MIN, 0}, {1, MAX}};
        for (int[] each : wrong) {
            Due.is("castNode" + java.util.Arrays.toString(each), x.castNode(each[0], each[1]), BAD);
        }
    }
}
