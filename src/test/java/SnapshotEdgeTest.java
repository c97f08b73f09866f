/** Promises 46 to 48 at their boundaries: no snapshot, empty and full ones, and counters from 0 to their greatest. */
final class SnapshotEdgeTest {
    private static final int BAD = -1;
    private static final int NONE = -2;
    private static final int FULL = -5;
    private static final int EMPTY_SLOT = -11;
    private static final int MIN = Integer.MIN_VALUE;
    private static final int MAX = Integer.MAX_VALUE;

    private SnapshotEdgeTest() {
    }

    public static void main(String[] args) {
        promise46FromNoSlotToAllSlots();
        promise46NothingElseChanges();
        promise46ThePreviousIsReplaced();
        promise46LaterChangesAreNotSaved();
        promise47NoSnapshot();
        promise47EachRegister();
        promise47EachSlot();
        promise47EmptySlotsAreRestored();
        promise47TheSnapshotRemains();
        promise47NodesKeepTheirFractions();
        promise47WhatStays();
        promise48TheEndsOfWhat();
        promise48TheTermList();
        promise48TheText();
        promise48TheSlots();
        promise48TheArrays();
        Due.end();
    }

    private static void promise46FromNoSlotToAllSlots() {
        SternBrocotExplorer x = new SternBrocotExplorer();
        Due.is("snapshot of 0 nodes", x.snapshot(), 0);
        Due.is("restore of 0 nodes", x.restore(), 0);
        for (int slot = 0; slot < 5; slot++) {
            x.plant(slot, slot, 0);
            Due.is("snapshot of " + (slot + 1) + " nodes", x.snapshot(), slot + 1);
            Due.is("restore of " + (slot + 1) + " nodes", x.restore(), slot + 1);
        }
        for (int slot = 0; slot < 5; slot++) {
            x.plant(slot, -1, 0);
            Due.is("snapshot of " + (4 - slot) + " nodes", x.snapshot(), 4 - slot);
            Due.is("restore of " + (4 - slot) + " nodes", x.restore(), 4 - slot);
        }
    }

    private static void promise46NothingElseChanges() {
        // The twin takes its snapshot, too, because what restore brings back is compared as well.
        Edge.changes("snapshot", Edge.NOTHING, 4, x -> x.snapshot(), x -> x.snapshot());
        SternBrocotExplorer x = new SternBrocotExplorer();
        x.set(7, 2, 3);
        x.pushTerm(4);
        x.feed('R');
        x.plant(4, 1, 7);
        x.newArray(2, 1);
        Due.is("snapshot of one node", x.snapshot(), 1);
        Due.fraction(x, 7, 2, 3);
        Due.fraction(x, 0, 1, 1);
        Due.is("the node", x.castNode(4, 0), 1);
        for (int what = 0; what < 4; what++) {
            Due.is("count(" + what + ") after snapshot", x.count(what), 1);
        }
    }

    private static void promise46ThePreviousIsReplaced() {
        SternBrocotExplorer x = new SternBrocotExplorer();
        for (int register = 0; register < 8; register++) {
            x.set(register, register + 1, 9);
        }
        for (int slot = 0; slot < 5; slot++) {
            x.plant(slot, slot, 7);
        }
        Due.is("a full snapshot", x.snapshot(), 5);
        for (int register = 0; register < 8; register++) {
            x.set(register, register + 1, 11);
        }
        for (int slot = 0; slot < 5; slot++) {
            x.plant(slot, -1, 0);
        }
        Due.is("an empty snapshot over it", x.snapshot(), 0);
        for (int register = 0; register < 8; register++) {
            x.set(register, 1, 1);
        }
        x.plant(2, 0, 0);
        Due.is("restore of the empty one", x.restore(), 0);
        for (int register = 0; register < 8; register++) {
            Due.fraction(x, register, register + 1, 11);
        }
        for (int slot = 0; slot < 5; slot++) {
            Due.is("slot " + slot, x.castNode(slot, 0), EMPTY_SLOT);
        }
    }

    private static void promise46LaterChangesAreNotSaved() {
        SternBrocotExplorer x = new SternBrocotExplorer();
        Due.is("snapshot of a new object", x.snapshot(), 0);
        for (int register = 0; register < 8; register++) {
            x.set(register, 2, 3);
        }
        for (int slot = 0; slot < 5; slot++) {
            x.plant(slot, 4, 0);
        }
        Due.is("restore of a new object's snapshot", x.restore(), 0);
        for (int register = 0; register < 8; register++) {
            Due.fraction(x, register, 1, 1);
        }
        Due.is("slots that hold a node", x.count(2), 0);
    }

    private static void promise47NoSnapshot() {
        SternBrocotExplorer x = new SternBrocotExplorer();
        Due.is("restore of a new object", x.restore(), NONE);
        for (int register = 0; register < 8; register++) {
            x.set(register, register + 2, 13);
        }
        x.plant(0, 3, 0);
        x.plant(4, 4, 7);
        x.pushTerm(5);
        x.feed('L');
        x.newArray(0, 1);
        Due.is("restore without a snapshot", x.restore(), NONE);
        for (int register = 0; register < 8; register++) {
            Due.fraction(x, register, register + 2, 13);
        }
        Due.is("slot 0 stays", x.castNode(0, 0), 3);
        Due.is("slot 4 stays", x.castNode(4, 0), 4);
        int[] counts = {1, 1, 2, 1};
        for (int what = 0; what < 4; what++) {
            Due.is("count(" + what + ") stays", x.count(what), counts[what]);
        }
        Due.is("restore without a snapshot again", x.restore(), NONE);
        Due.is("the first snapshot", x.snapshot(), 2);
        Due.is("restore of it", x.restore(), 2);
    }

    private static void promise47EachRegister() {
        for (int changed = 0; changed < 8; changed++) {
            SternBrocotExplorer x = new SternBrocotExplorer();
            for (int register = 0; register < 8; register++) {
                x.set(register, 1000000 - register, 999999 - 2 * register);
            }
            int[] tops = new int[8];
            int[] bottoms = new int[8];
            for (int register = 0; register < 8; register++) {
                tops[register] = x.numerator(register);
                bottoms[register] = x.denominator(register);
            }
            x.snapshot();
            x.set(changed, 1, 1);
            Due.is("restore", x.restore(), 0);
            for (int register = 0; register < 8; register++) {
                Due.fraction(x, register, tops[register], bottoms[register]);
            }
        }
    }

    private static void promise47EachSlot() {
        for (int changed = 0; changed < 5; changed++) {
            SternBrocotExplorer x = new SternBrocotExplorer();
            for (int slot = 0; slot < 5; slot++) {
                x.set(0, slot + 10, 1);
                x.plant(slot, 0, 0);
            }
            x.snapshot();
            int replacement = changed % 2 == 0 ? 2 : -1;
            Due.is("the slot is changed", x.plant(changed, replacement, 0), 1);
            Due.is("restore", x.restore(), 5);
            for (int slot = 0; slot < 5; slot++) {
                Due.is("the kind in slot " + slot, x.castNode(slot, 0), 0);
                Due.is("grow of slot " + slot, x.operate(slot, 0, 100), 110 + slot);
            }
        }
    }

    private static void promise47EmptySlotsAreRestored() {
        for (int held = 0; held < 5; held++) {
            SternBrocotExplorer x = new SternBrocotExplorer();
            x.plant(held, 3, 0);
            Due.is("snapshot of slot " + held, x.snapshot(), 1);
            for (int slot = 0; slot < 5; slot++) {
                x.plant(slot, slot == held ? -1 : 0, 0);
            }
            Due.is("the slots are turned", x.count(2), 4);
            Due.is("restore of slot " + held, x.restore(), 1);
            for (int slot = 0; slot < 5; slot++) {
                Due.is("slot " + slot, x.castNode(slot, 0), slot == held ? 3 : EMPTY_SLOT);
            }
        }
    }

    private static void promise47TheSnapshotRemains() {
        SternBrocotExplorer x = new SternBrocotExplorer();
        x.set(0, 43, 30);
        x.plant(0, 1, 0);
        x.snapshot();
        for (int time = 1; time <= 5; time++) {
            Due.is("restore " + time, x.restore(), 1);
            Due.fraction(x, 0, 43, 30);
            Due.is("the kind, time " + time, x.castNode(0, 0), 1);
            x.set(0, time, 7);
            x.plant(0, time % 2 == 0 ? -1 : 4, 0);
            x.plant(4, 4, 0);
        }
        Due.is("restore twice, first", x.restore(), 1);
        Due.is("restore twice, second", x.restore(), 1);
        Due.fraction(x, 0, 43, 30);
        Due.is("slot 4", x.castNode(4, 0), EMPTY_SLOT);
    }

    private static void promise47NodesKeepTheirFractions() {
        SternBrocotExplorer x = new SternBrocotExplorer();
        x.set(0, 22, 7);
        x.plant(0, 3, 0);
        x.set(0, 1, 1);
        x.snapshot();
        x.set(0, 5, 8);
        x.plant(0, 3, 0);
        x.plant(1, 3, 0);
        Due.is("restore", x.restore(), 1);
        Due.is("grow of the restored node", x.operate(0, 0, 5), 37);
        Due.is("bend of the restored node", x.operate(0, 1, 5), 303);
        Due.fraction(x, 0, 1, 1);
    }

    private static void promise47WhatStays() {
        SternBrocotExplorer x = new SternBrocotExplorer();
        x.newArray(0, 60);
        x.newArray(1, 1);
        x.pushTerm(9);
        x.feed('L');
        x.snapshot();
        x.newArray(0, -1);
        x.setElement(1, 0, 6);
        x.newArray(2, 0);
        x.clearTerms();
        x.discardText();
        Due.is("restore", x.restore(), 0);
        Due.is("an array that became null", x.setElement(0, 0, 1), EMPTY_SLOT);
        Due.is("an element that was set", x.element(1, 0), 6);
        Due.is("an array that was null", x.setElement(2, 0, 1), -13);
        Due.is("the term list that was cleared", x.count(0), 0);
        Due.is("the text that was discarded", x.count(1), 0);
        for (int i = 0; i < 20; i++) {
            x.pushTerm(1);
        }
        for (int i = 0; i < 60; i++) {
            x.feed('R');
        }
        Due.is("restore with a full list and text", x.restore(), 0);
        Due.is("the full term list", x.count(0), 20);
        Due.is("the full text", x.count(1), 60);
        Due.is("the value of the list", x.fromTerms(0), 1);
        Due.fraction(x, 0, 10946, 6765);
        Due.is("the text is followed", x.followPath(1, 1), 1);
        Due.fraction(x, 1, 61, 1);
    }

    private static void promise48TheEndsOfWhat() {
        for (int what : new int[] {-1, -2, 4, 5, MIN, MAX}) {
            Edge.refuses("count(" + what + ")", BAD, x -> x.count(what));
        }
        int[] counts = {4, 3, 4, 2};
        for (int what = 0; what < 4; what++) {
            int now = what;
            Edge.answers("count(" + what + ")", Edge.NOTHING, counts[what], x -> x.count(now));
        }
    }

    /** The counter has a value, and the three others are 0. */
    private static void counts(String told, SternBrocotExplorer x, int what, int due) {
        for (int other = 0; other < 4; other++) {
            Due.is(told + ": count(" + other + ")", x.count(other), other == what ? due : 0);
        }
    }

    private static void promise48TheTermList() {
        SternBrocotExplorer x = new SternBrocotExplorer();
        counts("no term", x, 0, 0);
        for (int length = 1; length <= 20; length++) {
            x.pushTerm(0);
            counts("a list of " + length, x, 0, length);
        }
        Due.is("pushTerm to a full list", x.pushTerm(0), FULL);
        counts("a full list", x, 0, 20);
        x.pushTerm(-1);
        counts("a list after a refused term", x, 0, 20);
        x.clearTerms();
        counts("a list that was cleared", x, 0, 0);
    }

    private static void promise48TheText() {
        SternBrocotExplorer x = new SternBrocotExplorer();
        counts("no character", x, 1, 0);
        for (int length = 1; length <= 60; length++) {
            x.feed(' ');
            counts("a text of " + length, x, 1, length);
        }
        Due.is("feed to a full buffer", x.feed(' '), FULL);
        counts("a full text", x, 1, 60);
        x.feed(127);
        counts("a text after a refused character", x, 1, 60);
        x.followPath(8, 0);
        counts("a text after a refused path", x, 1, 60);
        x.followPath(0, 0);
        counts("a text that was wrong", x, 1, 0);
        x.feed('R');
        x.discardText();
        counts("a text that was discarded", x, 1, 0);
    }

    private static void promise48TheSlots() {
        SternBrocotExplorer x = new SternBrocotExplorer();
        counts("no node", x, 2, 0);
        for (int slot = 4; slot >= 0; slot--) {
            x.plant(slot, slot, 0);
            counts("nodes down to slot " + slot, x, 2, 5 - slot);
            x.plant(slot, 4 - slot, 0);
            counts("another node in slot " + slot, x, 2, 5 - slot);
        }
        x.plant(5, 0, 0);
        x.plant(0, 5, 0);
        x.plant(0, -1, 8);
        counts("five nodes after refused ones", x, 2, 5);
        for (int slot = 0; slot < 5; slot++) {
            x.plant(slot, -1, 0);
            counts("emptied up to slot " + slot, x, 2, 4 - slot);
        }
    }

    private static void promise48TheArrays() {
        SternBrocotExplorer x = new SternBrocotExplorer();
        counts("no array", x, 3, 0);
        int[] sizes = {60, 0, 1};
        for (int array = 0; array < 3; array++) {
            x.newArray(array, sizes[array]);
            counts("arrays up to slot " + array, x, 3, array + 1);
        }
        x.newArray(0, 61);
        x.newArray(0, -2);
        x.newArray(3, 1);
        counts("three arrays after refused ones", x, 3, 3);
        for (int array = 2; array >= 0; array--) {
            x.newArray(array, -1);
            counts("null down to slot " + array, x, 3, array);
        }
        x.fillArray(1, 0, 2);
        counts("an array without a step", x, 3, 1);
    }
}
