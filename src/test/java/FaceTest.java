import java.lang.reflect.Constructor;
import java.lang.reflect.Field;
import java.lang.reflect.Method;
import java.lang.reflect.Modifier;
import java.util.Arrays;
import java.util.Map;
import java.util.Set;
import java.util.TreeMap;
import java.util.TreeSet;

/** The public face: every constant with its value, the constructor, every method, and nothing else. */
public final class FaceTest {
    private static int wrong = 0;

    private static void due(String what, Object got, Object want) {
        if (!got.equals(want)) {
            wrong++;
            System.out.println(what + ": " + got + ", due is " + want);
        }
    }

    public static void main(String[] args) throws Exception {
        constants();
        due("methods", methods(), Set.of("void forget()", "int value(int, int)", "int array(int)", "int object(int)",
            "int input()", "int leaf(int, int)", "int one(int, int)", "int two(int, int)", "int three(int, int)",
            "int scrap()", "int run()", "int answers()", "int counted()", "int items(int)", "int kind(int, int)",
            "int number(int, int)"));
        Constructor<?>[] made = NestedFilters.class.getDeclaredConstructors();
        due("constructors", made.length, 1);
        due("its parameters", made[0].getParameterCount(), 0);
        due("the class is public and final", NestedFilters.class.getModifiers(), Modifier.PUBLIC | Modifier.FINAL);
        due("classes within", NestedFilters.class.getDeclaredClasses().length, 0);
        System.out.println(wrong == 0 ? "the face is as due" : wrong + " things are not as due");
        if (wrong != 0) System.exit(1);
    }

    private static void constants() throws Exception {
        Map<String, Integer> got = new TreeMap<>();
        for (Field f : NestedFilters.class.getDeclaredFields()) {
            if (Modifier.isPrivate(f.getModifiers())) continue;
            due(f.getName(), f.getModifiers(), Modifier.PUBLIC | Modifier.STATIC | Modifier.FINAL);
            got.put(f.getName(), f.getInt(null));
        }
        due("constants", got, Map.of("BAD_ARG", -1000000001, "FULL", -1000000002, "TOO_FEW", -1000000003,
            "NONE", -1000000004, "LONG", -1000000005, "DONE", 0, "MORE", 1, "FAILED", 2, "TIRED", 3, "NO_FILTER", 4));
    }

    private static Set<String> methods() {
        Set<String> face = new TreeSet<>();
        Set<String> inner = new TreeSet<>();
        Set<String> names = new TreeSet<>();
        for (Method m : NestedFilters.class.getDeclaredMethods()) {
            if (Modifier.isPrivate(m.getModifiers())) {
                inner.add(m.getName());
            } else {
                names.add(m.getName());
                String parameters = Arrays.toString(m.getParameterTypes());
                face.add(m.getReturnType() + " " + m.getName() + "("
                    + parameters.substring(1, parameters.length() - 1) + ")");
            }
        }
        inner.retainAll(names);
        due("private methods with a public name", inner, Set.of());
        return face;
    }
}
