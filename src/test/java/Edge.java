import java.util.LinkedHashMap;
import java.util.Map;

/**
 * Cases at a boundary. A case has two objects of its own, with something in every part of their
 * state: the call is made on one of them, the change that is due (none for a refused call) on its
 * twin, and then the answer and the whole state of both are compared.
 */
final class Edge {
    static final Calls NOTHING = x -> { };

    interface Calls {
        void on(SternBrocotExplorer x);
    }

    interface Call {
        long on(SternBrocotExplorer x);
    }

    private Edge() {
    }

    /** The call answers an error code and changes nothing. */
    static void refuses(String told, long code, Call call) {
        changes(told, NOTHING, code, call, NOTHING);
    }

    static void refuses(String told, Calls before, long code, Call call) {
        changes(told, before, code, call, NOTHING);
    }

    /** The call answers and changes nothing. */
    static void answers(String told, Calls before, long due, Call call) {
        changes(told, before, due, call, NOTHING);
    }

    /** The call answers, and what changes is a register alone. */
    static void sets(String told, Calls before, long due, Call call, int register, int top, int bottom) {
        changes(told, before, due, call, x -> x.set(register, top, bottom));
    }

    static void changes(String told, Calls before, long due, Call call, Calls change) {
        SternBrocotExplorer x = furnished(before);
        SternBrocotExplorer twin = furnished(before);
        Due.is(told, call.on(x), due);
        change.on(twin);
        Map<String, Long> got = state(x);
        state(twin).forEach((part, want) -> Due.is(told + ": then " + part, got.get(part), want));
    }

    /** Puts fractions, given by numerator and denominator, into the registers from 0 on. */
    static Calls registers(int... numbers) {
        return x -> {
            for (int i = 0; i + 1 < numbers.length; i += 2) {
                Due.is("set before a case", x.set(i / 2, numbers[i], numbers[i + 1]), 1);
            }
        };
    }

    static Calls termList(int... terms) {
        return x -> {
            x.clearTerms();
            for (int term : terms) {
                x.pushTerm(term);
            }
        };
    }

    static Calls text(String text) {
        return x -> {
            x.discardText();
            for (int i = 0; i < text.length(); i++) {
                x.feed(text.charAt(i));
            }
        };
    }

    static Calls array(int array, String letters) {
        return x -> {
            x.newArray(array, letters.length());
            for (int i = 0; i < letters.length(); i++) {
                x.setElement(array, i, letters.charAt(i) - '0');
            }
        };
    }

    static Calls both(Calls first, Calls second) {
        return x -> {
            first.on(x);
            second.on(x);
        };
    }

    /** Slot 4 is empty and array 2 is null; everything else holds something. */
    private static SternBrocotExplorer furnished(Calls before) {
        SternBrocotExplorer x = new SternBrocotExplorer();
        registers(1, 17, 2, 17, 3, 17, 4, 17, 5, 17, 6, 17, 7, 17, 8, 17).on(x);
        x.plant(4, 2, 4);
        x.plant(1, 4, 1);
        x.snapshot();
        x.plant(4, -1, 0);
        registers(43, 30, 5, 7, 355, 113, 2, 9, 9, 2, 17, 12, 1, 6, 22, 7).on(x);
        int[] kinds = {3, 1, 4, 0};
        for (int slot = 0; slot < kinds.length; slot++) {
            x.plant(slot, kinds[slot], slot);
        }
        x.newArray(0, 3);
        x.setElement(0, 0, 4);
        x.setElement(0, 1, -7);
        array(1, "00101").on(x);
        termList(1, 2, 3, 4).on(x);
        text("RL2").on(x);
        before.on(x);
        return x;
    }

    /** Everything that calls can tell of an object; what only calls that change it can tell comes last. */
    private static Map<String, Long> state(SternBrocotExplorer x) {
        Map<String, Long> seen = new LinkedHashMap<>();
        for (int what = 0; what < 4; what++) {
            seen.put("count " + what, (long) x.count(what));
        }
        registersAndSlots("", x, seen);
        for (int array = 0; array < 3; array++) {
            seen.put("kind of array " + array, (long) x.setElement(array, -1, 0));
            for (int index = 0; index <= 60; index++) {
                seen.put("element " + index + " of array " + array, x.element(array, index));
            }
        }
        termList(x, seen);
        text(x, seen);
        seen.put("restore", (long) x.restore());
        registersAndSlots(" restored", x, seen);
        return seen;
    }

    private static void registersAndSlots(String when, SternBrocotExplorer x, Map<String, Long> seen) {
        for (int register = 0; register < 8; register++) {
            seen.put("numerator " + register + when, (long) x.numerator(register));
            seen.put("denominator " + register + when, (long) x.denominator(register));
        }
        for (int slot = 0; slot < 5; slot++) {
            for (int kind = 0; kind < 5; kind++) {
                seen.put("cast of slot " + slot + " to " + kind + when, (long) x.castNode(slot, kind));
            }
            seen.put("grow of slot " + slot + when, (long) x.operate(slot, 0, 3));
            seen.put("bend of slot " + slot + when, (long) x.operate(slot, 1, 3));
        }
    }

    private static void termList(SternBrocotExplorer x, Map<String, Long> seen) {
        seen.put("fromTerms", (long) x.fromTerms(0));
        seen.put("value of the list, numerator", (long) x.numerator(0));
        seen.put("value of the list, denominator", (long) x.denominator(0));
        seen.put("pushTerm", (long) x.pushTerm(3));
        seen.put("fromTerms of the longer list", (long) x.fromTerms(0));
        seen.put("value of the longer list, numerator", (long) x.numerator(0));
        seen.put("value of the longer list, denominator", (long) x.denominator(0));
        seen.put("clearTerms", (long) x.clearTerms());
    }

    private static void text(SternBrocotExplorer x, Map<String, Long> seen) {
        x.set(0, 2, 3);
        seen.put("followPath", (long) x.followPath(0, 0));
        seen.put("value of the text, numerator", (long) x.numerator(0));
        seen.put("value of the text, denominator", (long) x.denominator(0));
    }
}
