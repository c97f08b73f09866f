import java.lang.reflect.InvocationTargetException;
import java.lang.reflect.Method;
import java.util.ArrayList;
import java.util.Arrays;
import java.util.Comparator;
import java.util.HashMap;
import java.util.List;
import java.util.Map;
import java.util.Random;

/**
 * Runs of calls with arguments of all sorts on the class and on the reference model. Both must answer
 * alike, and at the end of a run their whole state is compared. The runs are the same each time.
 */
final class RandomRunsTest {
    private static final int RUNS = 500;
    private static final int CALLS = 300;
    private static final Map<String, String> ROLES = roles();

    private RandomRunsTest() {
    }

    /** What each method's arguments are, a letter each; see draw. */
    private static Map<String, String> roles() {
        String[] all = {
            "set rnn", "numerator r", "denominator r", "compare rr", "combine rrr4", "determinant rr", "depth r",
            "pathStep ri", "runCount r", "run ri", "ancestor rri", "bound rr1", "child rr1", "commonAncestor rrr",
            "termCount r", "term ri", "convergent rri", "pushTerm t", "clearTerms", "fromTerms r", "best rrm2",
            "simplestBetween rrr", "rankedBetween rrr4k", "fareyNext rro", "fareyCount o", "calkinWilfIndex r",
            "fromCalkinWilf rx", "calkinWilfNext rr", "wordLetter ri", "factorLength r", "recognizeWord ra",
            "dedekind r", "feed c", "discardText", "followPath rr", "pathTextLength r", "pathText ri", "plant s5r",
            "operate s1v", "castNode s4", "newArray az", "setElement aew", "element ae", "fillArray ar2", "snapshot",
            "restore", "count 3"
        };
        Map<String, String> roles = new HashMap<>();
        for (String line : all) {
            String[] parts = line.split(" ");
            roles.put(parts[0], parts.length == 1 ? "" : parts[1]);
        }
        return roles;
    }

    /** Some calls are made more often, because others need many of them before. */
    private static int weight(String name) {
        switch (name) {
            case "set":
                return 12;
            case "feed":
                return 16;
            case "pushTerm":
                return 6;
            case "setElement":
                return 8;
            case "plant":
            case "operate":
            case "fillArray":
                return 3;
            case "newArray":
            case "recognizeWord":
            case "followPath":
                return 2;
            default:
                return 1;
        }
    }

    public static void main(String[] args) throws ReflectiveOperationException {
        List<Method> drawn = new ArrayList<>();
        Method[] methods = SternBrocotExplorer.class.getDeclaredMethods();
        Arrays.sort(methods, Comparator.comparing(Method::toString));
        for (Method method : methods) {
            if (java.lang.reflect.Modifier.isPublic(method.getModifiers())) {
                Due.holds("a role for " + method, ROLES.containsKey(method.getName()));
                for (int i = 0; i < weight(method.getName()); i++) {
                    drawn.add(method);
                }
            }
        }
        for (int run = 0; run < RUNS; run++) {
            oneRun(run, drawn);
        }
        Due.end();
    }

    private static void oneRun(int run, List<Method> drawn) throws ReflectiveOperationException {
        Random random = new Random(run);
        SternBrocotExplorer x = new SternBrocotExplorer();
        ReferenceModel y = new ReferenceModel();
        // Large fractions are slow to walk in the model, so that only every tenth run has many of them.
        boolean large = run % 10 == 0;
        for (int call = 0; call < CALLS; call++) {
            Method method = drawn.get(random.nextInt(drawn.size()));
            String roles = ROLES.get(method.getName());
            Object[] values = new Object[roles.length()];
            for (int i = 0; i < values.length; i++) {
                values[i] = draw(roles.charAt(i), random, large);
            }
            same(run, call, x, y, method.getName(), method.getParameterTypes(), values);
        }
        compareStates(run, x, y);
    }

    private static void compareStates(int run, SternBrocotExplorer x, ReferenceModel y)
            throws ReflectiveOperationException {
        Class<?>[] one = {int.class};
        Class<?>[] two = {int.class, int.class};
        for (int register = 0; register < 8; register++) {
            same(run, CALLS, x, y, "numerator", one, new Object[] {register});
            same(run, CALLS, x, y, "denominator", one, new Object[] {register});
        }
        for (int what = 0; what < 4; what++) {
            same(run, CALLS, x, y, "count", one, new Object[] {what});
        }
        for (int slot = 0; slot < 5; slot++) {
            same(run, CALLS, x, y, "castNode", two, new Object[] {slot, 0});
        }
        for (int index = 0; index < 60; index++) {
            for (int array = 0; array < 3; array++) {
                same(run, CALLS, x, y, "element", two, new Object[] {array, index});
            }
        }
    }

    private static void same(int run, int call, SternBrocotExplorer x, ReferenceModel y, String name,
            Class<?>[] types, Object[] values) throws ReflectiveOperationException {
        Object want = ReferenceModel.class.getMethod(name, types).invoke(y, values);
        String told = "run " + run + " call " + call + ": " + name + Arrays.toString(values);
        try {
            Object got = SternBrocotExplorer.class.getMethod(name, types).invoke(x, values);
            Due.is(told, ((Number) got).longValue(), ((Number) want).longValue());
        } catch (InvocationTargetException thrown) {
            Due.holds(told + " threw " + thrown.getCause(), false);
        }
    }

    private static Object draw(char role, Random random, boolean large) {
        switch (role) {
            case 'r':
                return range(random, 0, 7);
            case 's':
                return range(random, 0, 4);
            case 'a':
                return range(random, 0, 2);
            case '5':
                return range(random, -1, 4);
            case '1':
            case '2':
            case '3':
            case '4':
                return range(random, 0, role - '0');
            case 'n':
                return number(random, large);
            case 'i':
                return random.nextInt(3) > 0 ? range(random, 0, 12) : range(random, 0, 2000000);
            case 't':
                return random.nextInt(4) > 0 ? range(random, 0, 3) : range(random, 0, 1000000);
            case 'm':
                return large ? range(random, 1, 1000000) : range(random, 1, 200);
            case 'k':
                return random.nextBoolean() ? range(random, 0, 20) : range(random, 0, 720);
            case 'o':
                return random.nextInt(5) > 0 ? range(random, 1, 60) : range(random, 1, 1000);
            case 'x':
                return random.nextInt(4) == 0 ? random.nextLong() : random.nextLong() >> random.nextInt(64);
            case 'c':
                return character(random);
            case 'z':
                return random.nextInt(4) == 0 ? range(random, -1, 60) : range(random, -2, 8);
            case 'e':
                return random.nextInt(4) == 0 ? range(random, 0, 59) : range(random, 0, 7);
            case 'w':
                return random.nextInt(10) > 0 ? random.nextInt(2) : random.nextInt();
            default:
                return random.nextInt(3) == 0 ? random.nextInt() : random.nextInt(100) - 50;
        }
    }

    /** A value of a range, now and then its ends, and seldom one outside it. */
    private static int range(Random random, int least, int greatest) {
        int chance = random.nextInt(60);
        if (chance == 0) {
            int[] outside = {least - 1, greatest + 1, Integer.MIN_VALUE, Integer.MAX_VALUE, -100, random.nextInt()};
            return outside[random.nextInt(outside.length)];
        }
        if (chance < 4) {
            return chance == 1 ? greatest : least;
        }
        return least + random.nextInt(greatest - least + 1);
    }

    private static int number(Random random, boolean large) {
        if (large && random.nextInt(3) == 0) {
            return range(random, 1, 1000000);
        }
        return random.nextInt(3) == 0 ? range(random, 1, 2000) : 1 + random.nextInt(30);
    }

    private static int character(Random random) {
        if (random.nextInt(40) == 0) {
            return range(random, 32, 126);
        }
        return "LLLRRR0123459".charAt(random.nextInt(13));
    }
}
