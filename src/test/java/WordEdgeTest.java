/** Promises 30 to 33 at their boundaries: Christoffel words and Dedekind sums. */
final class WordEdgeTest {
    private static final int BAD = -1;
    private static final int NONE = -2;
    private static final int EMPTY_SLOT = -11;
    private static final int MIN = Integer.MIN_VALUE;
    private static final int MAX = Integer.MAX_VALUE;

    private WordEdgeTest() {
    }

    public static void main(String[] args) {
        promise30TheFirstAndTheLastLetter();
        promise30LettersOfTheLongestWords();
        promise31TheLeastAndTheGreatestLength();
        promise32BothLettersOccur();
        promise32OtherElements();
        promise32LowestTerms();
        promise32TheSmallestClass();
        promise32AlmostAWord();
        promise32EmptyAndLongArrays();
        promise32NullArrays();
        promise33TheSmallestDenominators();
        promise33TheGreatestDenominators();
        Due.end();
    }

    private static void letter(int top, int bottom, int i, int due) {
        Edge.answers("wordLetter " + i + " of " + top + "/" + bottom, Edge.registers(top, bottom), due,
                x -> x.wordLetter(0, i));
    }

    private static void promise30TheFirstAndTheLastLetter() {
        String[] words = {"1 1 01", "1 2 001", "2 1 011", "2 3 00101", "3 2 01011"};
        for (String line : words) {
            String[] parts = line.split(" ");
            int top = Integer.parseInt(parts[0]);
            int bottom = Integer.parseInt(parts[1]);
            for (int i = 0; i < parts[2].length(); i++) {
                letter(top, bottom, i, parts[2].charAt(i) - '0');
            }
            letter(top, bottom, top + bottom, NONE);
            letter(top, bottom, top + bottom + 1, NONE);
            letter(top, bottom, MAX, NONE);
            letter(top, bottom, -1, BAD);
            letter(top, bottom, MIN, BAD);
        }
        Edge.refuses("a wrong register, behind the word", BAD, x -> x.wordLetter(8, MAX));
    }

    private static void promise30LettersOfTheLongestWords() {
        letter(1, 1000000, 0, 0);
        letter(1, 1000000, 1, 0);
        letter(1, 1000000, 999999, 0);
        letter(1, 1000000, 1000000, 1);
        letter(1, 1000000, 1000001, NONE);
        letter(1000000, 1, 0, 0);
        letter(1000000, 1, 1, 1);
        letter(1000000, 1, 999999, 1);
        letter(1000000, 1, 1000000, 1);
        letter(1000000, 1, 1000001, NONE);
        // Products above the ints: the word begins with 00, alternates, and so ends with 01.
        letter(999999, 1000000, 0, 0);
        letter(999999, 1000000, 1, 0);
        letter(999999, 1000000, 2, 1);
        letter(999999, 1000000, 2147, 0);
        letter(999999, 1000000, 2148, 1);
        letter(999999, 1000000, 1999997, 0);
        letter(999999, 1000000, 1999998, 1);
        letter(999999, 1000000, 1999999, NONE);
        letter(1000000, 999999, 1999996, 0);
        letter(1000000, 999999, 1999997, 1);
        letter(1000000, 999999, 1999998, 1);
        letter(1000000, 999999, 1999999, NONE);
    }

    private static void factor(int top, int bottom, int due) {
        Edge.answers("factorLength of " + top + "/" + bottom, Edge.registers(top, bottom), due,
                x -> x.factorLength(0));
    }

    private static void promise31TheLeastAndTheGreatestLength() {
        factor(1, 1, 1);
        factor(1, 2, 1);
        factor(2, 1, 2);
        factor(1, 999999, 1);
        factor(1, 1000000, 1);
        factor(999999, 1, 999999);
        factor(1000000, 1, 1000000);
        factor(999999, 1000000, 1999997);
        factor(1000000, 999999, 2);
        factor(832040, 514229, 514229);
        factor(514229, 832040, 832040);
    }

    /** Register 6 is set to ones and zeros, or stays if the class is 0. */
    private static void word(String letters, int due) {
        Edge.Calls before = Edge.array(0, letters);
        int ones = letters.replace("0", "").length();
        if (due == 0) {
            Edge.answers("recognizeWord of " + letters, before, 0, x -> x.recognizeWord(6, 0));
        } else {
            Edge.sets("recognizeWord of " + letters, before, due, x -> x.recognizeWord(6, 0), 6, ones,
                    letters.length() - ones);
        }
    }

    private static void promise32BothLettersOccur() {
        word("0", 0);
        word("1", 0);
        word("00", 0);
        word("11", 0);
        word("01", 1);
        word("10", 2);
        word("0000", 0);
        word("1111", 0);
        word("0001", 1);
        word("0111", 1);
    }

    private static void promise32OtherElements() {
        for (int other : new int[] {2, -1, 3, MIN, MAX}) {
            for (int index = 0; index < 5; index++) {
                int place = index;
                Edge.Calls before = Edge.both(Edge.array(0, "00101"), x -> x.setElement(0, place, other));
                Edge.answers("recognizeWord with " + other + " at " + index, before, 0, x -> x.recognizeWord(6, 0));
            }
        }
        // The sums are those of words.
        word("02", 0);
        word("002", 0);
        Edge.answers("recognizeWord of 2 and -1", Edge.both(Edge.array(0, "02"), x -> x.setElement(0, 0, -1)), 0,
                x -> x.recognizeWord(6, 0));
    }

    private static void promise32LowestTerms() {
        word("0101", 0);
        word("0011", 0);
        word("0110", 0);
        word("1010", 0);
        word("001001", 0);
        word("011011", 0);
        word("0010100101", 0);
    }

    private static void promise32TheSmallestClass() {
        word("00101", 1);
        word("10100", 2);
        word("01010", 3);
        word("10010", 3);
        word("01001", 3);
        word("001", 1);
        word("100", 2);
        word("010", 3);
        word("011", 1);
        word("110", 2);
        word("101", 3);
        word("00100100101", 1);
        word("10100100100", 2);
        word("01001001010", 3);
        word("10010010010", 3);
    }

    private static void promise32AlmostAWord() {
        word("00011", 0);
        word("11000", 0);
        word("00110", 0);
        word("10001", 0);
        word("01100", 0);
        word("00010010101", 0);
        word("00100101001", 3);
        word("00100010101", 0);
    }

    private static void longWord(String told, int top, int bottom, int changed, int due) {
        Edge.Calls before = x -> {
            x.set(0, top, bottom);
            x.fillArray(0, 0, 1);
            if (changed >= 0) {
                x.setElement(0, changed, 1 - (int) x.element(0, changed));
            }
        };
        if (due == 0) {
            Edge.answers(told, before, 0, x -> x.recognizeWord(6, 0));
        } else {
            Edge.sets(told, before, due, x -> x.recognizeWord(6, 0), 6, top, bottom);
        }
    }

    private static void promise32EmptyAndLongArrays() {
        word("", 0);
        longWord("recognizeWord of 29/31", 29, 31, -1, 1);
        longWord("recognizeWord of 1/59", 1, 59, -1, 1);
        longWord("recognizeWord of 59/1", 59, 1, -1, 1);
        longWord("recognizeWord of 59 letters", 29, 30, -1, 1);
        longWord("recognizeWord of 1/59 with another 1 in front", 1, 59, 0, 0);
        longWord("recognizeWord of 29/31 with another 1 in front", 29, 31, 0, 0);
        longWord("recognizeWord of 29/31 with another 0 at its end", 29, 31, 59, 0);
        word("1" + "01".repeat(29), 3);
        word("0".repeat(59) + "1", 1);
        word("1" + "0".repeat(59), 2);
        word("0".repeat(58) + "10", 3);
        word("010" + "0".repeat(57), 3);
        word("0".repeat(60), 0);
        word("1".repeat(60), 0);
        word("01".repeat(30), 0);
    }

    private static void promise32NullArrays() {
        Edge.refuses("recognizeWord of a null array", EMPTY_SLOT, x -> x.recognizeWord(6, 2));
        Edge.refuses("a null array that was none", x -> x.newArray(1, -1), EMPTY_SLOT, x -> x.recognizeWord(6, 1));
        Edge.refuses("a wrong target and a null array", BAD, x -> x.recognizeWord(8, 2));
        Edge.refuses("a wrong target and an array", BAD, x -> x.recognizeWord(-1, 1));
    }

    private static void sum(int top, int bottom, int due) {
        Edge.answers("dedekind of " + top + "/" + bottom, Edge.registers(top, bottom), due, x -> x.dedekind(0));
    }

    private static void promise33TheSmallestDenominators() {
        sum(1, 1, 0);
        sum(2, 1, 0);
        sum(1000000, 1, 0);
        sum(1, 2, 0);
        sum(3, 2, 0);
        sum(999999, 2, 0);
        sum(1, 3, 2);
        sum(2, 3, -2);
        sum(4, 3, 2);
        sum(1000000, 3, 2);
    }

    private static void promise33TheGreatestDenominators() {
        sum(1, 19999, 399900006);
        sum(1, 20000, 399940002);
        sum(1, 20001, MIN);
        sum(1, 20002, MIN);
        sum(19998, 19999, -399900006);
        sum(19999, 20000, -399940002);
        sum(20000, 20001, MIN);
        sum(20001, 20000, 399940002);
        sum(999999, 20000, -399940002);
        sum(1000000, 19999, 8880006);
        sum(1000000, 20001, MIN);
        sum(7919, 20000, -234402);
        sum(12361, 20000, 133602);
        sum(10001, 20000, 99940002);
        sum(9999, 20000, -99940002);
        sum(1, 1000000, MIN);
        sum(999999, 1000000, MIN);
        // In lowest terms its denominator is small enough.
        Edge.answers("dedekind of 50/1000000", x -> x.set(0, 50, 1000000), 399940002, x -> x.dedekind(0));
        Edge.answers("dedekind of 2/40000", x -> x.set(0, 2, 40000), 399940002, x -> x.dedekind(0));
        Edge.answers("dedekind of 2/40002", x -> x.set(0, 2, 40002), MIN, x -> x.dedekind(0));
    }
}
