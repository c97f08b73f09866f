/** Promises 30 to 33: Christoffel words and Dedekind sums. */
final class WordTest {
    private static final int BAD = SternBrocotExplorer.BAD_ARGUMENT;
    private static final int NONE = SternBrocotExplorer.NONE;
    private static final int MIN = Integer.MIN_VALUE;
    private static final int MAX = Integer.MAX_VALUE;

    private WordTest() {
    }

    public static void main(String[] args) {
        promise30WordLetter();
        promise31FactorLength();
        promise32RecognizeWord();
        promise32RecognizeWordErrors();
        promise33Dedekind();
        Due.end();
    }

    private static void word(SternBrocotExplorer x, int top, int bottom, String letters) {
        x.set(0, top, bottom);
        for (int i = 0; i < letters.length(); i++) {
            Due.is("letter " + i + " of " + top + "/" + bottom, x.wordLetter(0, i), letters.charAt(i) - '0');
        }
        Due.is("the letter after the word of " + top + "/" + bottom, x.wordLetter(0, letters.length()), NONE);
    }

    private static void promise30WordLetter() {
        SternBrocotExplorer x = new SternBrocotExplorer();
        word(x, 1, 1, "01");
        word(x, 2, 3, "00101");
        word(x, 3, 2, "01011");
        word(x, 1, 4, "00001");
        word(x, 4, 1, "01111");
        word(x, 4, 7, "00100100101");
        x.set(0, 999999, 1000000);
        Due.is("a letter that needs exact products", x.wordLetter(0, 1999997), 0);
        Due.is("the last letter of a long word", x.wordLetter(0, 1999998), 1);
        Due.is("the first letter of a long word", x.wordLetter(0, 0), 0);
        Due.is("after a long word", x.wordLetter(0, 1999999), NONE);
        Due.is("wordLetter(0, MAX)", x.wordLetter(0, MAX), NONE);
        Due.is("wordLetter(0, -1)", x.wordLetter(0, -1), BAD);
        Due.is("wordLetter(0, MIN)", x.wordLetter(0, MIN), BAD);
        Due.is("wordLetter(-1, 0)", x.wordLetter(-1, 0), BAD);
        Due.is("wordLetter(8, MAX)", x.wordLetter(8, MAX), BAD);
    }

    private static void promise31FactorLength() {
        SternBrocotExplorer x = new SternBrocotExplorer();
        int[][] lengths = {{1, 1, 1}, {2, 3, 3}, {3, 2, 2}, {1, 9, 1}, {9, 1, 9}, {4, 7, 3},
            {999999, 1000000, 1999997}, {1000000, 999999, 2}, {1000000, 1, 1000000}, {1, 1000000, 1}};
        for (int[] each : lengths) {
            x.set(0, each[0], each[1]);
            Due.is("factorLength of " + each[0] + "/" + each[1], x.factorLength(0), each[2]);
        }
        Due.is("factorLength(-1)", x.factorLength(-1), BAD);
        Due.is("factorLength(8)", x.factorLength(8), BAD);
    }

    private static int recognize(SternBrocotExplorer x, int array, String letters) {
        x.newArray(array, letters.length());
        for (int i = 0; i < letters.length(); i++) {
            x.setElement(array, i, letters.charAt(i) - '0');
        }
        x.set(0, 9, 8);
        return x.recognizeWord(0, array);
    }

    private static void promise32RecognizeWord() {
        SternBrocotExplorer x = new SternBrocotExplorer();
        String[] words = {"01 1", "10 2", "00101 1", "10100 2", "01001 3", "10010 3", "01010 3", "01011 1",
            "11010 2", "0010010010 3", "0000101001 0", "001 1", "100 2", "010 3", "011 1", "110 2", "101 3", "00100100101 1"};
        for (String line : words) {
            String[] parts = line.split(" ");
            int due = Integer.parseInt(parts[1]);
            Due.is("recognizeWord of " + parts[0], recognize(x, 2, parts[0]), due);
            int ones = parts[0].replace("0", "").length();
            Due.fraction(x, 0, due == 0 ? 9 : ones, due == 0 ? 8 : parts[0].length() - ones);
        }
        x.set(1, 29, 31);
        x.fillArray(0, 1, 1);
        Due.is("the longest word", x.recognizeWord(7, 0), 1);
        Due.fraction(x, 7, 29, 31);
        Due.is("the array stays", x.fillArray(1, 7, 1), 60);
        Due.is("its last letter", x.element(0, 59), 1);
    }

    private static void promise32RecognizeWordErrors() {
        SternBrocotExplorer x = new SternBrocotExplorer();
        String[] none = {"", "0", "1", "000", "111", "0101", "0011", "00011", "11100", "012", "01014", "011011"};
        for (String letters : none) {
            Due.is("recognizeWord of '" + letters + "'", recognize(x, 0, letters), 0);
            Due.fraction(x, 0, 9, 8);
        }
        x.newArray(0, 3);
        x.setElement(0, 1, 2);
        x.setElement(0, 2, -1);
        Due.is("elements whose sum could be one of ones", x.recognizeWord(0, 0), 0);
        x.setElement(0, 1, MIN);
        Due.is("the least element", x.recognizeWord(0, 0), 0);
        Due.is("a null array", x.recognizeWord(0, 1), -11);
        Due.is("a wrong register and a null array", x.recognizeWord(8, 1), BAD);
        Due.is("recognizeWord(-1, 0)", x.recognizeWord(-1, 0), BAD);
        Due.is("recognizeWord(0, -1)", x.recognizeWord(0, -1), BAD);
        Due.is("recognizeWord(0, 3)", x.recognizeWord(0, 3), BAD);
        Due.fraction(x, 0, 9, 8);
    }

    private static void promise33Dedekind() {
        SternBrocotExplorer x = new SternBrocotExplorer();
        int[][] sums = {{1, 1, 0}, {7, 1, 0}, {1, 2, 0}, {1, 3, 2}, {2, 3, -2}, {4, 3, 2}, {2, 5, 0}, {7, 12, 2},
            {43, 30, 20}, {30, 43, -66}, {68, 157, -276}, {157, 68, 102}, {225, 157, -276}, {13, 21, -16},
            {21, 13, 0}, {355, 113, -1008}, {1393, 985, 0},
            {1, 20000, 399940002}, {19999, 20000, -399940002}, {999999, 20000, -399940002},
            {1, 20001, MIN}, {999999, 1000000, MIN}};
        for (int[] each : sums) {
            x.set(0, each[0], each[1]);
            Due.is("dedekind of " + each[0] + "/" + each[1], x.dedekind(0), each[2]);
        }
        Due.is("dedekind(-1)", x.dedekind(-1), MIN);
        Due.is("dedekind(8)", x.dedekind(8), MIN);
    }
}
