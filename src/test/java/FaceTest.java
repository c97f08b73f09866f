import java.lang.reflect.Constructor;
import java.lang.reflect.Field;
import java.lang.reflect.Member;
import java.lang.reflect.Method;
import java.lang.reflect.Modifier;
import java.util.HashSet;
import java.util.Set;
import java.util.TreeSet;

/** The public face: every constant, the constructor and every method of the document, and nothing more. */
final class FaceTest {
    private static final String[] CONSTANTS = {
        "BAD_ARGUMENT -1", "NONE -2", "TOO_LARGE -3", "NOT_POSITIVE -4", "FULL -5", "EMPTY_SLOT -11",
        "WRONG_KIND -12", "INDEX_OUT_OF_RANGE -13", "NEGATIVE_SIZE -14"
    };
    private static final String[] METHODS = {
        "int set(int,int,int)", "int numerator(int)", "int denominator(int)", "int compare(int,int)",
        "int combine(int,int,int,int)", "long determinant(int,int)", "int depth(int)", "int pathStep(int,int)",
        "int runCount(int)", "int run(int,int)", "int ancestor(int,int,int)", "int bound(int,int,int)",
        "int child(int,int,int)", "int commonAncestor(int,int,int)", "int termCount(int)", "int term(int,int)",
        "int convergent(int,int,int)", "int pushTerm(int)", "int clearTerms()", "int fromTerms(int)",
        "int best(int,int,int,int)", "int simplestBetween(int,int,int)", "int rankedBetween(int,int,int,int,int)",
        "int fareyNext(int,int,int)", "int fareyCount(int)", "long calkinWilfIndex(int)",
        "int fromCalkinWilf(int,long)", "int calkinWilfNext(int,int)", "int wordLetter(int,int)",
        "int factorLength(int)", "int recognizeWord(int,int)", "int dedekind(int)", "int feed(int)",
        "int discardText()", "int followPath(int,int)", "int pathTextLength(int)", "int pathText(int,int)",
        "int plant(int,int,int)", "int operate(int,int,int)", "int castNode(int,int)", "int newArray(int,int)",
        "int setElement(int,int,int)", "long element(int,int)", "int fillArray(int,int,int)", "int snapshot()",
        "int restore()", "int count(int)"
    };

    private FaceTest() {
    }

    public static void main(String[] args) throws ReflectiveOperationException {
        Class<?> face = SternBrocotExplorer.class;
        Due.is("modifiers of the class", face.getModifiers(), Modifier.PUBLIC | Modifier.FINAL);
        Due.holds("the class has no package", face.getPackageName().isEmpty());
        constants(face);
        methods(face);
        Constructor<?>[] constructors = face.getDeclaredConstructors();
        Due.is("constructors", constructors.length, 1);
        Due.is("modifiers of the constructor", constructors[0].getModifiers(), Modifier.PUBLIC);
        Due.is("parameters of the constructor", constructors[0].getParameterCount(), 0);
        for (Class<?> inside : face.getDeclaredClasses()) {
            int modifiers = inside.getModifiers();
            Due.holds(inside + " is static", Modifier.isStatic(modifiers));
            Due.holds(inside + " is hidden", !Modifier.isPublic(modifiers) && !Modifier.isProtected(modifiers));
        }
        Due.end();
    }

    private static void constants(Class<?> face) throws ReflectiveOperationException {
        for (String line : CONSTANTS) {
            String[] parts = line.split(" ");
            Field field = face.getDeclaredField(parts[0]);
            Due.is(parts[0], field.getInt(null), Integer.parseInt(parts[1]));
            Due.is("modifiers of " + parts[0], field.getModifiers(),
                    Modifier.PUBLIC | Modifier.STATIC | Modifier.FINAL);
        }
        Due.is("fields that are not private", notPrivate(face.getDeclaredFields()), CONSTANTS.length);
    }

    private static void methods(Class<?> face) {
        Set<String> found = new TreeSet<>();
        Set<String> names = new HashSet<>();
        for (Method method : face.getDeclaredMethods()) {
            if (Modifier.isPublic(method.getModifiers())) {
                found.add(told(method));
                names.add(method.getName());
                Due.is("modifiers of " + method, method.getModifiers(), Modifier.PUBLIC);
            }
        }
        Due.holds("the public methods are " + found, found.equals(new TreeSet<>(Set.of(METHODS))));
        Due.is("methods that are not private", notPrivate(face.getDeclaredMethods()), METHODS.length);
        for (Method method : face.getDeclaredMethods()) {
            boolean hidden = Modifier.isPrivate(method.getModifiers());
            Due.holds("a private method is named " + method, !hidden || !names.contains(method.getName()));
        }
    }

    private static String told(Method method) {
        StringBuilder line = new StringBuilder();
        line.append(method.getReturnType().getName()).append(' ').append(method.getName()).append('(');
        for (Class<?> type : method.getParameterTypes()) {
            line.append(line.charAt(line.length() - 1) == '(' ? "" : ",").append(type.getName());
        }
        return line.append(')').toString();
    }

    private static int notPrivate(Member[] members) {
        int count = 0;
        for (Member member : members) {
            count += Modifier.isPrivate(member.getModifiers()) ? 0 : 1;
        }
        return count;
    }
}
