/** All small fractions, intervals and words, compared with the reference model. */
final class ExhaustiveTest {
    private ExhaustiveTest() {
    }

    public static void main(String[] args) {
        everySmallFraction();
        everyPairOfSmallFractions();
        everySmallApproximation();
        everyRank();
        everyFareyCount();
        everySmallWord();
        everySmallIndex();
        manyDedekindSums();
        Due.end();
    }

    private static void setBoth(SternBrocotExplorer x, ReferenceModel y, int register, int top, int bottom) {
        String call = "set(" + register + ", " + top + ", " + bottom + ")";
        Due.is(call, x.set(register, top, bottom), y.set(register, top, bottom));
    }

    private static void sameRegister(String told, SternBrocotExplorer x, ReferenceModel y, int register) {
        Due.is("numerator after " + told, x.numerator(register), y.numerator(register));
        Due.is("denominator after " + told, x.denominator(register), y.denominator(register));
    }

    private static void everySmallFraction() {
        for (int top = 1; top <= 40; top++) {
            for (int bottom = 1; bottom <= 40; bottom++) {
                SternBrocotExplorer x = new SternBrocotExplorer();
                ReferenceModel y = new ReferenceModel();
                setBoth(x, y, 0, top, bottom);
                sameRegister("set", x, y, 0);
                String f = " of " + top + "/" + bottom;
                Due.is("depth" + f, x.depth(0), y.depth(0));
                Due.is("runCount" + f, x.runCount(0), y.runCount(0));
                Due.is("termCount" + f, x.termCount(0), y.termCount(0));
                Due.is("calkinWilfIndex" + f, x.calkinWilfIndex(0), y.calkinWilfIndex(0));
                Due.is("factorLength" + f, x.factorLength(0), y.factorLength(0));
                Due.is("dedekind" + f, x.dedekind(0), y.dedekind(0));
                Due.is("pathTextLength" + f, x.pathTextLength(0), y.pathTextLength(0));
                Due.is("calkinWilfNext" + f, x.calkinWilfNext(1, 0), y.calkinWilfNext(1, 0));
                sameRegister("calkinWilfNext" + f, x, y, 1);
                for (int side = 0; side <= 1; side++) {
                    Due.is("bound" + f, x.bound(2, 0, side), y.bound(2, 0, side));
                    sameRegister("bound" + f, x, y, 2);
                    Due.is("child" + f, x.child(2, 0, side), y.child(2, 0, side));
                    sameRegister("child" + f, x, y, 2);
                }
                everyPosition(x, y, f, top + bottom + 1);
            }
        }
    }

    private static void everyPosition(SternBrocotExplorer x, ReferenceModel y, String f, int end) {
        for (int i = 0; i <= end; i++) {
            Due.is("pathStep " + i + f, x.pathStep(0, i), y.pathStep(0, i));
            Due.is("run " + i + f, x.run(0, i), y.run(0, i));
            Due.is("term " + i + f, x.term(0, i), y.term(0, i));
            Due.is("wordLetter " + i + f, x.wordLetter(0, i), y.wordLetter(0, i));
            Due.is("pathText " + i + f, x.pathText(0, i), y.pathText(0, i));
            Due.is("ancestor " + i + f, x.ancestor(3, 0, i), y.ancestor(3, 0, i));
            sameRegister("ancestor " + i + f, x, y, 3);
            Due.is("convergent " + i + f, x.convergent(4, 0, i), y.convergent(4, 0, i));
            sameRegister("convergent " + i + f, x, y, 4);
        }
        for (int what = 0; what <= 2; what++) {
            Due.is("fillArray " + what + f, x.fillArray(0, 0, what), y.fillArray(0, 0, what));
            for (int i = 0; i <= 60; i++) {
                Due.is("element " + i + " of " + what + f, x.element(0, i), y.element(0, i));
            }
        }
    }

    private static void everyPairOfSmallFractions() {
        SternBrocotExplorer x = new SternBrocotExplorer();
        ReferenceModel y = new ReferenceModel();
        int widest = 11;
        for (int code = 0; code < widest * widest * widest * widest; code++) {
            int a = code % widest + 1;
            int b = code / widest % widest + 1;
            int c = code / widest / widest % widest + 1;
            int d = code / widest / widest / widest + 1;
            setBoth(x, y, 0, a, b);
            setBoth(x, y, 1, c, d);
            String f = " of " + a + "/" + b + " and " + c + "/" + d;
            Due.is("compare" + f, x.compare(0, 1), y.compare(0, 1));
            Due.is("determinant" + f, x.determinant(0, 1), y.determinant(0, 1));
            Due.is("commonAncestor" + f, x.commonAncestor(2, 0, 1), y.commonAncestor(2, 0, 1));
            sameRegister("commonAncestor" + f, x, y, 2);
            Due.is("simplestBetween" + f, x.simplestBetween(3, 0, 1), y.simplestBetween(3, 0, 1));
            sameRegister("simplestBetween" + f, x, y, 3);
            for (int operation = 0; operation <= 4; operation++) {
                Due.is("combine" + f, x.combine(4, 0, 1, operation), y.combine(4, 0, 1, operation));
                sameRegister("combine " + operation + f, x, y, 4);
            }
        }
    }

    private static void everySmallApproximation() {
        SternBrocotExplorer x = new SternBrocotExplorer();
        ReferenceModel y = new ReferenceModel();
        for (int top = 1; top <= 30; top++) {
            for (int bottom = 1; bottom <= 30; bottom++) {
                setBoth(x, y, 0, top, bottom);
                for (int limit = 1; limit <= 32; limit++) {
                    String f = " of " + top + "/" + bottom + " up to " + limit;
                    for (int kind = 0; kind <= 2; kind++) {
                        Due.is("best" + f, x.best(1, 0, limit, kind), y.best(1, 0, limit, kind));
                        sameRegister("best " + kind + f, x, y, 1);
                    }
                    Due.is("fareyNext" + f, x.fareyNext(2, 0, limit), y.fareyNext(2, 0, limit));
                    sameRegister("fareyNext" + f, x, y, 2);
                }
            }
        }
    }

    private static void everyRank() {
        SternBrocotExplorer x = new SternBrocotExplorer();
        ReferenceModel y = new ReferenceModel();
        int[][] intervals = {{1, 1000000, 1000000, 1}, {1, 3, 4, 1}, {5, 3, 7, 4}, {23, 24, 2, 1}, {3, 1, 9, 2}};
        for (int[] ends : intervals) {
            setBoth(x, y, 0, ends[0], ends[1]);
            setBoth(x, y, 1, ends[2], ends[3]);
            for (int measure = 0; measure <= 4; measure++) {
                for (int rank = 0; rank <= 720; rank += rank < 40 || rank > 700 ? 1 : 7) {
                    String f = "rank " + rank + " by " + measure + " from " + ends[0] + "/" + ends[1];
                    Due.is(f, x.rankedBetween(2, 0, 1, measure, rank), y.rankedBetween(2, 0, 1, measure, rank));
                    sameRegister(f, x, y, 2);
                }
            }
        }
    }

    private static void everyFareyCount() {
        SternBrocotExplorer x = new SternBrocotExplorer();
        ReferenceModel y = new ReferenceModel();
        for (int order = 1; order <= 1000; order += order < 200 ? 1 : 50) {
            Due.is("fareyCount(" + order + ")", x.fareyCount(order), y.fareyCount(order));
        }
        Due.is("fareyCount(1000)", x.fareyCount(1000), y.fareyCount(1000));
    }

    private static void everySmallWord() {
        SternBrocotExplorer x = new SternBrocotExplorer();
        ReferenceModel y = new ReferenceModel();
        for (int size = 0; size <= 11; size++) {
            for (int bits = 0; bits < 1 << size; bits++) {
                x.newArray(0, size);
                y.newArray(0, size);
                for (int i = 0; i < size; i++) {
                    x.setElement(0, i, bits >> i & 1);
                    y.setElement(0, i, bits >> i & 1);
                }
                String f = "word " + bits + " of size " + size;
                Due.is(f, x.recognizeWord(0, 0), y.recognizeWord(0, 0));
                sameRegister(f, x, y, 0);
            }
        }
    }

    private static void everySmallIndex() {
        SternBrocotExplorer x = new SternBrocotExplorer();
        ReferenceModel y = new ReferenceModel();
        x.set(7, 1, 1);
        for (long index = 1; index <= 3000; index++) {
            String f = "index " + index;
            Due.is(f, x.fromCalkinWilf(0, index), y.fromCalkinWilf(0, index));
            sameRegister(f, x, y, 0);
            Due.is(f + " back", x.calkinWilfIndex(0), index);
            Due.is(f + " by steps", x.compare(0, 7), 1);
            Due.is(f + " next", x.calkinWilfNext(7, 7), 1);
        }
    }

    private static void manyDedekindSums() {
        SternBrocotExplorer x = new SternBrocotExplorer();
        ReferenceModel y = new ReferenceModel();
        for (int bottom = 1; bottom <= 20000; bottom += bottom < 60 ? 1 : bottom / 8) {
            for (int top = 1; top <= 1000000; top += 1 + top / 20) {
                setBoth(x, y, 0, top, bottom);
                Due.is("dedekind of " + top + "/" + bottom, x.dedekind(0), y.dedekind(0));
            }
        }
    }
}
