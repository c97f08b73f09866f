/** Promises 46 to 48: snapshots and counters. */
final class SnapshotTest {
    private SnapshotTest() {
    }

    public static void main(String[] args) {
        promises46And47SnapshotAndRestore();
        promise47WhatStays();
        promise46ReplacesThePrevious();
        promise48Count();
        Due.end();
    }

    private static void promises46And47SnapshotAndRestore() {
        SternBrocotExplorer x = new SternBrocotExplorer();
        x.set(3, 2, 3);
        Due.is("restore without a snapshot", x.restore(), -2);
        Due.fraction(x, 3, 2, 3);
        Due.is("a snapshot without nodes", x.snapshot(), 0);
        for (int register = 0; register < 8; register++) {
            x.set(register, register + 2, 13);
        }
        x.plant(0, 3, 0);
        x.plant(4, 4, 7);
        Due.is("a snapshot with nodes", x.snapshot(), 2);
        for (int register = 0; register < 8; register++) {
            x.set(register, 1, 9);
        }
        x.plant(0, -1, 0);
        x.plant(1, 0, 0);
        x.plant(2, 0, 0);
        x.plant(4, 0, 0);
        Due.is("restore", x.restore(), 2);
        for (int register = 0; register < 8; register++) {
            Due.fraction(x, register, register + 2, 13);
        }
        Due.is("the kind of slot 0", x.castNode(0, 0), 3);
        Due.is("slot 1 is empty again", x.castNode(1, 0), -11);
        Due.is("slot 2 is empty again", x.castNode(2, 0), -11);
        Due.is("slot 4 has its node again", x.operate(4, 0, 1), -10);
        x.set(0, 1, 9);
        x.plant(0, 1, 0);
        Due.is("the snapshot remains", x.restore(), 2);
        Due.fraction(x, 0, 2, 13);
        Due.is("and its nodes", x.castNode(0, 3), 3);
    }

    private static void promise47WhatStays() {
        SternBrocotExplorer x = new SternBrocotExplorer();
        x.pushTerm(3);
        x.feed('R');
        x.newArray(0, 2);
        x.setElement(0, 1, 5);
        x.newArray(1, 1);
        x.snapshot();
        x.pushTerm(4);
        x.feed('2');
        x.setElement(0, 1, 6);
        x.newArray(1, -1);
        x.newArray(2, 1);
        Due.is("restore", x.restore(), 0);
        Due.is("the term list stays", x.count(0), 2);
        Due.is("the text stays", x.count(1), 2);
        Due.is("the element stays", x.element(0, 1), 6);
        Due.is("the arrays stay", x.count(3), 2);
        Due.is("array 1 stays null", x.setElement(1, 0, 1), -11);
        x.fromTerms(0);
        Due.fraction(x, 0, 13, 4);
        Due.is("the text is followed", x.followPath(1, 1), 1);
        Due.fraction(x, 1, 3, 1);
    }

    private static void promise46ReplacesThePrevious() {
        SternBrocotExplorer x = new SternBrocotExplorer();
        x.set(0, 2, 3);
        x.plant(0, 0, 0);
        Due.is("the first snapshot", x.snapshot(), 1);
        x.set(0, 4, 5);
        x.plant(0, -1, 0);
        Due.is("the second snapshot", x.snapshot(), 0);
        x.set(0, 6, 7);
        x.plant(1, 0, 0);
        Due.is("restore of the second", x.restore(), 0);
        Due.fraction(x, 0, 4, 5);
        Due.is("slot 0", x.castNode(0, 0), -11);
        Due.is("slot 1", x.castNode(1, 0), -11);
    }

    private static void promise48Count() {
        SternBrocotExplorer x = new SternBrocotExplorer();
        x.pushTerm(1);
        x.pushTerm(1);
        x.pushTerm(1);
        x.pushTerm(1);
        x.feed('L');
        x.feed('L');
        x.feed('L');
        x.plant(0, 0, 0);
        x.plant(3, 0, 0);
        x.newArray(2, 0);
        Due.is("count(0)", x.count(0), 4);
        Due.is("count(1)", x.count(1), 3);
        Due.is("count(2)", x.count(2), 2);
        Due.is("count(3)", x.count(3), 1);
        for (int what : new int[] {-1, 4, Integer.MIN_VALUE, Integer.MAX_VALUE}) {
            Due.is("count(" + what + ")", x.count(what), -1);
        }
    }
}
