/** Promises 34 to 38: the text buffer and the text form of a path. */
final class PathTextTest {
    private static final int BAD = SternBrocotExplorer.BAD_ARGUMENT;
    private static final int NONE = SternBrocotExplorer.NONE;
    private static final int TOO_LARGE = SternBrocotExplorer.TOO_LARGE;
    private static final int MIN = Integer.MIN_VALUE;
    private static final int MAX = Integer.MAX_VALUE;

    private PathTextTest() {
    }

    public static void main(String[] args) {
        promise34Feed();
        promise35DiscardText();
        promise36FollowPath();
        promise36WrongTexts();
        promise36TooLarge();
        promise37PathTextLength();
        promise38PathText();
        Due.end();
    }

    private static void promise34Feed() {
        SternBrocotExplorer x = new SternBrocotExplorer();
        for (int character : new int[] {31, 127, 0, -1, MIN, MAX}) {
            Due.is("feed(" + character + ")", x.feed(character), BAD);
        }
        Due.is("feed(32)", x.feed(32), 1);
        Due.is("feed(126)", x.feed(126), 2);
        for (int length = 3; length <= 60; length++) {
            Due.is("feed to " + length, x.feed('L'), length);
        }
        Due.is("feed when full", x.feed('L'), -5);
        Due.is("feed of a wrong character when full", x.feed(31), BAD);
        Due.is("feed of 127 when full", x.feed(127), BAD);
        Due.is("count(1) when full", x.count(1), 60);
    }

    private static void promise35DiscardText() {
        SternBrocotExplorer x = new SternBrocotExplorer();
        Due.is("discardText of nothing", x.discardText(), 0);
        x.feed('x');
        x.feed('y');
        Due.is("discardText", x.discardText(), 2);
        Due.is("count(1)", x.count(1), 0);
        Due.is("discardText again", x.discardText(), 0);
        Due.is("feed after discardText", x.feed('R'), 1);
        Due.is("followPath after discardText", x.followPath(0, 0), 1);
        Due.fraction(x, 0, 2, 1);
    }

    private static int follow(SternBrocotExplorer x, int target, int source, String text) {
        for (int i = 0; i < text.length(); i++) {
            x.feed(text.charAt(i));
        }
        int answer = x.followPath(target, source);
        Due.is("the text after " + text, x.count(1), 0);
        return answer;
    }

    private static void follows(SternBrocotExplorer x, String text, int top, int bottom) {
        Due.is("followPath by " + text, follow(x, 1, 0, text), 1);
        Due.fraction(x, 1, top, bottom);
    }

    private static void promise36FollowPath() {
        SternBrocotExplorer x = new SternBrocotExplorer();
        follows(x, "", 1, 1);
        follows(x, "R", 2, 1);
        follows(x, "L", 1, 2);
        follows(x, "RL", 3, 2);
        follows(x, "LR", 2, 3);
        follows(x, "R2L", 5, 2);
        follows(x, "RL2R3L3", 43, 30);
        follows(x, "RLLRRRLLL", 43, 30);
        follows(x, "R1L1L1R2R1L2L1", 43, 30);
        follows(x, "L12", 1, 13);
        follows(x, "R999999", 1000000, 1);
        follows(x, "L999999", 1, 1000000);
        follows(x, "R100203", 100204, 1);
        follows(x, "LRLRLRLRLRLRLRLRLRLRLRLRLRLR", 514229, 832040);
        x.set(0, 2, 3);
        follows(x, "", 2, 3);
        follows(x, "RL", 7, 5);
        follows(x, "L5", 2, 13);
        Due.fraction(x, 0, 2, 3);
        Due.is("the target is the source", follow(x, 0, 0, "R10"), 1);
        Due.fraction(x, 0, 32, 3);
        x.feed('L');
        for (int[] each : new int[][] {{-1, 0}, {8, 0}, {0, -1}, {0, 8}}) {
            Due.is("followPath" + each[0] + " " + each[1], x.followPath(each[0], each[1]), BAD);
            Due.is("the text stays", x.count(1), 1);
        }
        x.feed('x');
        Due.is("a wrong register and a wrong text", x.followPath(8, 0), BAD);
        Due.is("the wrong text stays", x.count(1), 2);
        Due.is("and is wrong later", x.followPath(0, 0), -101);
    }

    private static void promise36WrongTexts() {
        SternBrocotExplorer x = new SternBrocotExplorer();
        x.set(1, 9, 8);
        String[] texts = {"1 100", "0 100", "x 100", "l 100", "R0 101", "L0 101", "R01 101", "Rx 101", "RL0 102",
            "R10L05 104", "R1234567 107", "L1000000 107", "RLR2x 104", "R2.5 102", "R-1 101", "R+1 101", "r 100",
            "R999999L999999x 114", "LRK 102", "L/ 101", "L: 101", "LR9: 103", "Q0 100", "S 100", "R12/ 103"};
        for (String line : texts) {
            String[] parts = line.split(" ");
            Due.is("followPath by " + parts[0], follow(x, 1, 0, parts[0]), -Integer.parseInt(parts[1]));
            Due.fraction(x, 1, 9, 8);
        }
        Due.is("a space first", follow(x, 1, 0, " R"), -100);
        Due.is("a space within", follow(x, 1, 0, "R 2"), -101);
        Due.is("the last of 60 characters", follow(x, 1, 0, "RL".repeat(29) + "R*"), -159);
        // Had it been applied from its beginning, it would be too large before the wrong character.
        Due.is("a wrong text that would be too large", follow(x, 1, 0, "L999999R999999 "), -114);
        Due.fraction(x, 1, 9, 8);
    }

    private static void promise36TooLarge() {
        SternBrocotExplorer x = new SternBrocotExplorer();
        x.set(1, 9, 8);
        String[] texts = {"R999999R", "RR999999", "L999999L", "R999999L", "R999999L999999",
            "LRLRLRLRLRLRLRLRLRLRLRLRLRLRL", "R999999".repeat(8), "L999999R999999L999999R999999"};
        for (String text : texts) {
            Due.is("followPath by " + text, follow(x, 1, 0, text), TOO_LARGE);
            Due.fraction(x, 1, 9, 8);
        }
        Due.is("60 steps", follow(x, 1, 0, "RL".repeat(30)), TOO_LARGE);
        x.set(2, 1, 1000000);
        Due.is("a step from the edge", follow(x, 1, 2, "R"), TOO_LARGE);
        Due.is("another one", follow(x, 1, 2, "L"), TOO_LARGE);
        Due.is("no step from the edge", follow(x, 1, 2, ""), 1);
        Due.fraction(x, 1, 1, 1000000);
    }

    private static void text(SternBrocotExplorer x, int top, int bottom, String form) {
        x.set(0, top, bottom);
        String told = " of " + top + "/" + bottom;
        Due.is("pathTextLength" + told, x.pathTextLength(0), form.length());
        for (int i = 0; i < form.length(); i++) {
            Due.is("pathText " + i + told, x.pathText(0, i), form.charAt(i));
        }
        Due.is("pathText behind the text" + told, x.pathText(0, form.length()), NONE);
    }

    private static void promise37PathTextLength() {
        SternBrocotExplorer x = new SternBrocotExplorer();
        int[][] lengths = {{1, 1, 0}, {2, 1, 1}, {3, 1, 2}, {10, 1, 2}, {11, 1, 3}, {100, 1, 3}, {101, 1, 4},
            {43, 30, 7}, {1000000, 1, 7}, {100001, 1, 7}, {100000, 1, 6}, {1, 3, 2}};
        for (int[] each : lengths) {
            x.set(0, each[0], each[1]);
            Due.is("pathTextLength of " + each[0] + "/" + each[1], x.pathTextLength(0), each[2]);
        }
        Due.is("pathTextLength(-1)", x.pathTextLength(-1), BAD);
        Due.is("pathTextLength(8)", x.pathTextLength(8), BAD);
    }

    private static void promise38PathText() {
        SternBrocotExplorer x = new SternBrocotExplorer();
        text(x, 1, 1, "");
        text(x, 2, 1, "R");
        text(x, 1, 2, "L");
        text(x, 43, 30, "RL2R3L3");
        text(x, 30, 43, "LR2L3R3");
        text(x, 123457, 1, "R123456");
        text(x, 1, 1000000, "L999999");
        text(x, 999999, 1000000, "LR999998");
        text(x, 11, 10, "RL9");
        text(x, 12, 11, "RL10");
        text(x, 2047, 23, "R88");
        text(x, 101, 10, "R10L9");
        text(x, 514229, 832040, "LR".repeat(14));
        Due.is("pathText(0, MAX)", x.pathText(0, MAX), NONE);
        Due.is("pathText(0, -1)", x.pathText(0, -1), BAD);
        Due.is("pathText(0, MIN)", x.pathText(0, MIN), BAD);
        Due.is("pathText(-1, 0)", x.pathText(-1, 0), BAD);
        Due.is("pathText(8, MAX)", x.pathText(8, MAX), BAD);
    }
}
