/** The runs of calls that the document shows under 'Examples'. */
final class ExamplesTest {
    private ExamplesTest() {
    }

    public static void main(String[] args) {
        thePathOf43By30();
        bestApproximations();
        between5By3And7By4();
        indexesAndWords();
        aPathTextAndTrees();
        Due.end();
    }

    private static void thePathOf43By30() {
        SternBrocotExplorer x = new SternBrocotExplorer();
        Due.is("set(0, 43, 30)", x.set(0, 43, 30), 1);
        Due.is("termCount(0)", x.termCount(0), 4);
        Due.is("term(0, 0)", x.term(0, 0), 1);
        Due.is("term(0, 3)", x.term(0, 3), 4);
        Due.is("depth(0)", x.depth(0), 9);
        Due.is("runCount(0)", x.runCount(0), 4);
        Due.is("run(0, 1)", x.run(0, 1), 2);
        Due.is("pathTextLength(0)", x.pathTextLength(0), 7);
        Due.is("bound(1, 0, 0)", x.bound(1, 0, 0), 1);
        Due.fraction(x, 1, 10, 7);
        Due.is("convergent(1, 0, 2)", x.convergent(1, 0, 2), 1);
        Due.fraction(x, 1, 10, 7);
    }

    private static void bestApproximations() {
        SternBrocotExplorer x = new SternBrocotExplorer();
        Due.is("set(0, 355, 113)", x.set(0, 355, 113), 1);
        Due.is("best(1, 0, 112, 0)", x.best(1, 0, 112, 0), 1);
        Due.fraction(x, 1, 333, 106);
        Due.is("best(1, 0, 112, 2)", x.best(1, 0, 112, 2), 1);
        Due.fraction(x, 1, 22, 7);
        Due.is("set(0, 5, 2)", x.set(0, 5, 2), 1);
        Due.is("best(1, 0, 1, 0)", x.best(1, 0, 1, 0), 1);
        Due.is("numerator(1)", x.numerator(1), 2);
        Due.is("set(0, 1, 3)", x.set(0, 1, 3), 1);
        Due.is("best(1, 0, 1, 0)", x.best(1, 0, 1, 0), -2);
    }

    private static void between5By3And7By4() {
        SternBrocotExplorer x = new SternBrocotExplorer();
        Due.is("set(0, 5, 3)", x.set(0, 5, 3), 1);
        Due.is("set(1, 7, 4)", x.set(1, 7, 4), 1);
        Due.is("simplestBetween(2, 0, 1)", x.simplestBetween(2, 0, 1), 1);
        Due.fraction(x, 2, 12, 7);
        Due.is("simplestBetween(2, 1, 0)", x.simplestBetween(2, 1, 0), -2);
        Due.is("rankedBetween(2, 0, 1, 0, 0)", x.rankedBetween(2, 0, 1, 0, 0), 14);
        Due.fraction(x, 2, 12, 7);
        Due.is("fareyNext(2, 0, 4)", x.fareyNext(2, 0, 4), 1);
        Due.fraction(x, 2, 7, 4);
    }

    private static void indexesAndWords() {
        SternBrocotExplorer x = new SternBrocotExplorer();
        Due.is("set(0, 3, 8)", x.set(0, 3, 8), 1);
        Due.is("calkinWilfIndex(0)", x.calkinWilfIndex(0), 20);
        Due.is("calkinWilfNext(1, 0)", x.calkinWilfNext(1, 0), 1);
        Due.is("calkinWilfIndex(1)", x.calkinWilfIndex(1), 21);
        Due.is("set(0, 2, 3)", x.set(0, 2, 3), 1);
        Due.is("wordLetter(0, 0)", x.wordLetter(0, 0), 0);
        Due.is("wordLetter(0, 2)", x.wordLetter(0, 2), 1);
        Due.is("wordLetter(0, 4)", x.wordLetter(0, 4), 1);
        Due.is("factorLength(0)", x.factorLength(0), 3);
        Due.is("dedekind(0)", x.dedekind(0), -2);
        Due.is("set(0, 1, 20001)", x.set(0, 1, 20001), 1);
        Due.is("dedekind(0)", x.dedekind(0), -2147483648);
    }

    private static void aPathTextAndTrees() {
        SternBrocotExplorer x = new SternBrocotExplorer();
        Due.is("feed(82)", x.feed(82), 1);
        Due.is("feed(50)", x.feed(50), 2);
        Due.is("feed(76)", x.feed(76), 3);
        Due.is("followPath(0, 7)", x.followPath(0, 7), 1);
        Due.fraction(x, 0, 5, 2);
        Due.is("feed(82)", x.feed(82), 1);
        Due.is("feed(48)", x.feed(48), 2);
        Due.is("followPath(0, 7)", x.followPath(0, 7), -101);
        Due.is("set(0, 22, 7)", x.set(0, 22, 7), 1);
        Due.is("plant(0, 3, 0)", x.plant(0, 3, 0), 0);
        Due.is("operate(0, 0, 5)", x.operate(0, 0, 5), 37);
        Due.is("operate(0, 1, 5)", x.operate(0, 1, 5), 303);
        Due.is("castNode(0, 1)", x.castNode(0, 1), 3);
        Due.is("castNode(0, 4)", x.castNode(0, 4), -12);
    }
}
