/** Promises 34 to 38 at their boundaries: the text buffer and the text form of a path. */
final class TextEdgeTest {
    private static final int BAD = -1;
    private static final int NONE = -2;
    private static final int TOO_LARGE = -3;
    private static final int FULL = -5;
    private static final int MIN = Integer.MIN_VALUE;
    private static final int MAX = Integer.MAX_VALUE;

    private TextEdgeTest() {
    }

    public static void main(String[] args) {
        promise34TheEndsOfTheCharacters();
        promise34TheLastRoomOfTheBuffer();
        promise35EmptyAndFullBuffers();
        promise36AnEmptyBuffer();
        promise36TheDigitsOfACount();
        promise36TheCharactersAroundTheGrammar();
        promise36TheFirstAndTheLastPosition();
        promise36TheGreatestValues();
        promise36ValuesThatAreTooLarge();
        promise36TheOrderOfErrors();
        promise36TheBufferIsRemoved();
        promise36TheTargetMayBeTheSource();
        promises37And38LengthsOfRuns();
        promises37And38TheLongestTexts();
        promise38TheFirstAndTheLastCharacter();
        Due.end();
    }

    private static void promise34TheEndsOfTheCharacters() {
        for (int wrong : new int[] {31, 30, 127, 128, 0, -1, 255, MIN, MAX}) {
            Edge.refuses("feed(" + wrong + ")", BAD, x -> x.feed(wrong));
        }
        for (int character : new int[] {32, 33, 125, 126}) {
            SternBrocotExplorer x = new SternBrocotExplorer();
            Due.is("feed(" + character + ")", x.feed(character), 1);
            Due.is("count(1) then", x.count(1), 1);
            Due.is("followPath then", x.followPath(0, 0), -100);
        }
    }

    private static Edge.Calls steps(int length) {
        return Edge.text("R".repeat(length));
    }

    private static void promise34TheLastRoomOfTheBuffer() {
        Edge.changes("feed to 1", steps(0), 1, x -> x.feed('R'), steps(1));
        Edge.changes("feed to 59", steps(58), 59, x -> x.feed('R'), steps(59));
        Edge.changes("feed to 60", steps(59), 60, x -> x.feed('R'), steps(60));
        Edge.refuses("feed to 61", steps(60), FULL, x -> x.feed('R'));
        for (int wrong : new int[] {31, 127, MIN, MAX}) {
            Edge.refuses("feed(" + wrong + ") to 61", steps(60), BAD, x -> x.feed(wrong));
            Edge.refuses("feed(" + wrong + ") to 60", steps(59), BAD, x -> x.feed(wrong));
        }
        for (int character : new int[] {32, 126}) {
            Edge.refuses("feed(" + character + ") to 61", steps(60), FULL, x -> x.feed(character));
        }
        Edge.answers("the length of 59", steps(59), 59, x -> x.count(1));
        Edge.answers("the length of 60", steps(60), 60, x -> x.count(1));
    }

    private static void promise35EmptyAndFullBuffers() {
        for (int length : new int[] {0, 1, 59, 60}) {
            Edge.changes("discardText of " + length, steps(length), length, x -> x.discardText(), steps(0));
        }
        Edge.answers("discardText a second time", Edge.both(steps(60), x -> x.discardText()), 0,
                x -> x.discardText());
        Edge.changes("feed after a full buffer", Edge.both(steps(60), x -> x.discardText()), 1, x -> x.feed('L'),
                Edge.text("L"));
        Edge.changes("discardText of a wrong text", Edge.text("R0x"), 3, x -> x.discardText(), steps(0));
    }

    /** The buffer is emptied, and register 6 is set unless the numerator is an error code. */
    private static void follow(String text, int p, int q, int top, int bottom) {
        String told = "followPath of " + text + " from " + p + "/" + q;
        Edge.Calls before = Edge.both(Edge.registers(p, q), Edge.text(text));
        if (top < 0) {
            Edge.changes(told, before, top, x -> x.followPath(6, 0), x -> x.discardText());
        } else {
            Edge.changes(told, before, 1, x -> x.followPath(6, 0), x -> {
                x.discardText();
                x.set(6, top, bottom);
            });
        }
    }

    private static void promise36AnEmptyBuffer() {
        follow("", 1, 1, 1, 1);
        follow("", 43, 30, 43, 30);
        follow("", 1000000, 999999, 1000000, 999999);
        follow("R", 1, 1, 2, 1);
        follow("L", 1, 1, 1, 2);
    }

    private static void promise36TheDigitsOfACount() {
        follow("R1", 1, 1, 2, 1);
        follow("L1", 1, 1, 1, 2);
        follow("R2", 1, 1, 3, 1);
        follow("R9", 1, 1, 10, 1);
        follow("R0", 1, 1, -101, 0);
        follow("L0", 1, 1, -101, 0);
        follow("R01", 1, 1, -101, 0);
        follow("R10", 1, 1, 11, 1);
        follow("R100000", 1, 1, 100001, 1);
        follow("R99999", 1, 1, 100000, 1);
        follow("R999999", 1, 1, 1000000, 1);
        follow("R1000000", 1, 1, -107, 0);
        follow("R1234567", 1, 1, -107, 0);
        follow("R0000001", 1, 1, -101, 0);
        follow("RL0", 1, 1, -102, 0);
        follow("R1L0", 1, 1, -103, 0);
        follow("R123456L123456", 1, 1000000, TOO_LARGE, 0);
        follow("R2L123456R3", 1, 1, 987654, 493825);
        follow("L1R1", 1, 1, 2, 3);
        follow("LL2L", 1, 1, 1, 5);
        follow("0", 1, 1, -100, 0);
        follow("1", 1, 1, -100, 0);
        follow("9R", 1, 1, -100, 0);
    }

    private static void promise36TheCharactersAroundTheGrammar() {
        for (char wrong : "KMQSlr/: ~!@O".toCharArray()) {
            follow(wrong + "", 1, 1, -100, 0);
            follow("L" + wrong, 1, 1, -101, 0);
            follow("R" + wrong + "2", 1, 1, -101, 0);
            follow("R5" + wrong, 1, 1, -102, 0);
            follow("RL" + wrong + "L", 1, 1, -102, 0);
        }
    }

    private static void promise36TheFirstAndTheLastPosition() {
        follow("xL", 1, 1, -100, 0);
        follow("xx", 1, 1, -100, 0);
        follow("Rxy", 1, 1, -101, 0);
        follow("R" + "L".repeat(57) + "x", 1, 1, -158, 0);
        follow("R" + "L".repeat(58) + "x", 1, 1, -159, 0);
        follow("R1".repeat(29) + "R0", 1, 1, -159, 0);
        follow("R1".repeat(26) + "R1234567", 1, 1, -159, 0);
        follow("R1".repeat(30), 1, 1, 31, 1);
        follow("R".repeat(60), 1, 1, 61, 1);
        follow("L".repeat(60), 1, 1, 1, 61);
        follow("L".repeat(59) + "2", 1, 1, 1, 61);
        follow("L".repeat(53) + "R123456", 1, 1, TOO_LARGE, 0);
        follow("L".repeat(54) + "R12345", 1, 1, 12346, 666685);
    }

    private static void promise36TheGreatestValues() {
        follow("R999998", 1, 1, 999999, 1);
        follow("R999999", 1, 1, 1000000, 1);
        follow("L999999", 1, 1, 1, 1000000);
        follow("R", 999999, 1, 1000000, 1);
        follow("L", 1, 999999, 1, 1000000);
        follow("RL499999", 1, 1, 500001, 500000);
        follow("R999998R", 1, 1, 1000000, 1);
        follow("LR999998", 1, 1, 999999, 1000000);
        follow("RL999998", 1, 1, 1000000, 999999);
        follow("", 1000000, 1, 1000000, 1);
        follow("R333333", 1, 3, 1000000, 3);
        follow("L333333", 3, 1, 3, 1000000);
    }

    private static void promise36ValuesThatAreTooLarge() {
        follow("RR999999", 1, 1, TOO_LARGE, 0);
        follow("R999999R", 1, 1, TOO_LARGE, 0);
        follow("LL999999", 1, 1, TOO_LARGE, 0);
        follow("R", 1000000, 1, TOO_LARGE, 0);
        follow("L", 1000000, 1, TOO_LARGE, 0);
        follow("L", 1, 1000000, TOO_LARGE, 0);
        follow("R", 1, 1000000, TOO_LARGE, 0);
        follow("LR999999", 1, 1, TOO_LARGE, 0);
        follow("R333334", 1, 3, TOO_LARGE, 0);
        follow("L333334", 3, 1, TOO_LARGE, 0);
        follow("R999999", 2, 1, TOO_LARGE, 0);
        follow("R999999L999999", 1, 1, TOO_LARGE, 0);
        follow("R999999".repeat(8), 1000000, 999999, TOO_LARGE, 0);
        follow("L999999".repeat(8), 1000000, 999999, TOO_LARGE, 0);
        follow("RL".repeat(30), 1, 1, TOO_LARGE, 0);
        follow("LR".repeat(14), 1, 1, 514229, 832040);
        follow("R" + "LR".repeat(14), 1, 1, TOO_LARGE, 0);
    }

    private static void promise36TheOrderOfErrors() {
        // It is applied from its end, and would be too large before the wrong character were reached.
        follow("xRR999999", 1, 1, -100, 0);
        follow("RR999999x", 1, 1, -108, 0);
        for (int wrong : new int[] {-1, 8}) {
            Edge.refuses("a wrong target and a wrong text", Edge.text("x"), BAD, x -> x.followPath(wrong, 0));
            Edge.refuses("a wrong source and a wrong text", Edge.text("x"), BAD, x -> x.followPath(0, wrong));
            Edge.refuses("a wrong target and a large value", Edge.text("RR999999"), BAD,
                    x -> x.followPath(wrong, 0));
            Edge.refuses("a wrong source and an empty text", Edge.text(""), BAD, x -> x.followPath(0, wrong));
        }
    }

    private static void promise36TheBufferIsRemoved() {
        String[] texts = {"", "RL2", "x", "R0", "RR999999", "R".repeat(60), "*".repeat(60)};
        for (String text : texts) {
            Edge.Calls before = Edge.both(Edge.text(text), x -> x.followPath(6, 7));
            Edge.answers("the length after followPath of " + text, before, 0, x -> x.count(1));
            Edge.changes("feed after followPath of " + text, before, 1, x -> x.feed('L'), Edge.text("L"));
            Edge.Calls refused = Edge.both(Edge.text(text), x -> x.followPath(6, 8));
            Edge.answers("the length after a refused followPath of " + text, refused, text.length(), x -> x.count(1));
        }
    }

    private static void promise36TheTargetMayBeTheSource() {
        Edge.changes("followPath onto its source", Edge.NOTHING, 1, x -> x.followPath(0, 0), x -> {
            x.discardText();
            x.set(0, 159, 116);
        });
        Edge.changes("a wrong text onto its source", Edge.text("R5x"), -102, x -> x.followPath(0, 0),
                x -> x.discardText());
    }

    private static void form(int top, int bottom, String text) {
        String of = " of " + top + "/" + bottom;
        Edge.Calls before = Edge.registers(top, bottom);
        Edge.answers("pathTextLength" + of, before, text.length(), x -> x.pathTextLength(0));
        for (int i = 0; i < text.length(); i++) {
            int place = i;
            Edge.answers("pathText " + i + of, before, text.charAt(i), x -> x.pathText(0, place));
        }
        Edge.answers("pathText behind the text" + of, before, NONE, x -> x.pathText(0, text.length()));
        Edge.answers("pathText farther behind" + of, before, NONE, x -> x.pathText(0, text.length() + 1));
    }

    private static void promises37And38LengthsOfRuns() {
        form(1, 1, "");
        for (int steps : new int[] {1, 2, 9, 10, 11, 99, 100, 101, 999, 1000, 1001, 9999, 10000, 10001, 99999,
            100000, 100001, 999998, 999999}) {
            String count = steps == 1 ? "" : Integer.toString(steps);
            form(steps + 1, 1, "R" + count);
            form(1, steps + 1, "L" + count);
        }
    }

    private static void promises37And38TheLongestTexts() {
        form(999999, 1000000, "LR999998");
        form(1000000, 999999, "RL999998");
        form(832040, 514229, "RL".repeat(14));
        form(514229, 832040, "LR".repeat(14));
        form(43, 30, "RL2R3L3");
        form(3, 2, "RL");
        form(2, 3, "LR");
        form(101, 10, "R10L9");
        form(111, 10, "R11L9");
        form(11, 111, "L10R10");
    }

    private static void promise38TheFirstAndTheLastCharacter() {
        for (int i : new int[] {-1, MIN}) {
            Edge.refuses("pathText " + i, BAD, x -> x.pathText(0, i));
            Edge.refuses("pathText " + i + " of 1/1", Edge.registers(1, 1), BAD, x -> x.pathText(0, i));
        }
        Edge.refuses("pathText 0 of 1/1", Edge.registers(1, 1), NONE, x -> x.pathText(0, 0));
        Edge.refuses("pathText MAX", NONE, x -> x.pathText(0, MAX));
        Edge.refuses("pathText MAX of a wrong register", BAD, x -> x.pathText(8, MAX));
        Edge.refuses("pathText 7 of a wrong register", BAD, x -> x.pathText(-1, 7));
    }
}
