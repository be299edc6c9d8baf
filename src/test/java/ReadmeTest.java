import java.lang.reflect.Field;
import java.lang.reflect.Method;
import java.lang.reflect.Modifier;
import java.nio.file.Files;
import java.nio.file.Path;
import java.util.List;
import java.util.Set;
import java.util.TreeSet;
import java.util.regex.Matcher;
import java.util.regex.Pattern;

/** Makes the calls that README.md shows: each must answer what stands behind it, and each method must be shown. */
public final class ReadmeTest {
    private static final Pattern CALL = Pattern.compile("x\\.(\\w+)\\((.*?)\\);\\s+// ([-\\w]+|\\(it answers nothing\\)).*");
    private static final Pattern CODE = Pattern.compile("\\| `([A-Z_]+)` \\| (-?\\d+) \\|.*");
    private static int calls = 0;
    private static int wrong = 0;

    public static void main(String[] args) throws Exception {
        List<String> lines = Files.readAllLines(Path.of("README.md"));
        Set<String> called = shown(lines);
        Set<String> face = new TreeSet<>();
        for (Method m : NestedFilters.class.getDeclaredMethods()) if (Modifier.isPublic(m.getModifiers())) face.add(m.getName());
        face.removeAll(called);
        due("methods not shown", face, Set.of());
        codes(lines);
        System.out.println(calls + " calls made, " + wrong + " failed");
        if (wrong != 0) System.exit(1);
    }

    private static void due(String what, Object got, Object want) {
        if (!got.equals(want)) {
            wrong++;
            System.out.println(what + ": " + got + ", due is " + want);
        }
    }

    /** Makes the calls of all examples, and answers the names of what was called. */
    private static Set<String> shown(List<String> lines) throws Exception {
        Set<String> called = new TreeSet<>();
        NestedFilters x = null;
        boolean java = false;
        for (String line : lines) {
            if (line.startsWith("```")) {
                java = line.equals("```java");
            } else if (java && line.equals("NestedFilters x = new NestedFilters();")) {
                x = new NestedFilters();
            } else if (java) {
                called.add(made(x, line));
            }
        }
        return called;
    }

    private static String made(NestedFilters x, String line) throws Exception {
        Matcher m = CALL.matcher(line);
        if (!m.matches()) {
            due("a line of an example", line, "a call with its answer");
            return "";
        }
        calls++;
        String[] words = m.group(2).isEmpty() ? new String[0] : m.group(2).split(", ");
        Class<?>[] types = new Class<?>[words.length];
        Object[] numbers = new Object[words.length];
        for (int i = 0; i < words.length; i++) {
            types[i] = int.class;
            numbers[i] = Integer.valueOf(words[i]);
        }
        Method method = NestedFilters.class.getMethod(m.group(1), types);
        Object got = method.invoke(x, numbers);
        due(line, got == null ? "(it answers nothing)" : got.toString(), number(m.group(3)));
        return m.group(1);
    }

    /** What a code's name stands for; all else is as it is. */
    private static String number(String told) throws Exception {
        if (!told.matches("[A-Z_]+")) return told;
        return String.valueOf(NestedFilters.class.getField(told).getInt(null));
    }

    private static void codes(List<String> lines) throws Exception {
        Set<String> told = new TreeSet<>();
        for (String line : lines) {
            Matcher m = CODE.matcher(line);
            if (m.matches()) told.add(m.group(1) + " " + m.group(2));
        }
        Set<String> want = new TreeSet<>();
        for (Field f : NestedFilters.class.getFields()) want.add(f.getName() + " " + f.getInt(null));
        due("codes", told, want);
    }
}
