import java.nio.file.Files;
import java.nio.file.Path;
import java.util.ArrayList;
import java.util.List;
import java.util.Map;
import java.util.TreeMap;
import java.util.TreeSet;
import java.util.regex.Matcher;
import java.util.regex.Pattern;

/**
 * The rules of LANGUAGE.md that can be read off the text of the class, written as this project
 * writes it (a method's head on one line, four spaces in). Not a parser: it warns, it proves nothing.
 */
public final class LanguageTest {
    private static final Pattern HEAD = Pattern.compile("^    (public|private) (static )?(\\w+ )?(\\w+)\\((.*)\\) \\{$");
    private static final Pattern CALL = Pattern.compile("\\b([a-z]\\w*)\\(");
    private static int wrong = 0;

    private static void due(String rule, boolean holds) {
        if (!holds) {
            wrong++;
            System.out.println(rule);
        }
    }

    public static void main(String[] args) throws Exception {
        String source = Files.readString(Path.of(args.length > 0 ? args[0] : "src/main/java/NestedFilters.java"));
        String code = source.replaceAll("(?s)/\\*.*?\\*/", "").replaceAll("//[^\\n]*", "");
        words(code);
        Map<String, List<String>> methods = methods(code);
        due("methods were found", methods.size() > 16);
        shape(methods);
        calls(methods);
        System.out.println(wrong == 0 ? "the language is kept to" : wrong + " rules are broken");
        if (wrong != 0) System.exit(1);
    }

    private static void words(String code) {
        String banned = "package import float double String null throw throws try catch synchronized assert instanceof "
            + "Math Integer System Arrays Object interface enum record this super protected";
        for (String word : banned.split(" ")) {
            due("the word " + word + " is used", !Pattern.compile("\\b" + word + "\\b").matcher(code).find());
        }
        due("an arrow or a method reference is used", !code.contains("->") && !code.contains("::"));
        due("a text is used", code.indexOf('"') < 0);
        due("an array has two dimensions", !code.contains("[][]"));
        int fields = 0;
        for (String line : code.split("\n")) {
            if (line.contains("new ")) {
                due("an array is made elsewhere: " + line, line.matches("    private final int\\[\\] \\w+ = new int\\[[A-Z_]+\\];"));
            }
            if (line.startsWith("    private") && line.endsWith(";") && !line.contains(" static ")) fields++;
        }
        due(fields + " fields", fields <= 40);
    }

    private static Map<String, List<String>> methods(String code) {
        Map<String, List<String>> found = new TreeMap<>();
        List<String> body = null;
        for (String line : code.split("\n")) {
            Matcher head = HEAD.matcher(line);
            if (head.matches()) {
                body = new ArrayList<>(List.of(head.group(5)));
                due("two methods named " + head.group(4), found.put(head.group(4), body) == null);
            } else if (line.equals("    }")) {
                body = null;
            } else if (body != null) {
                body.add(line);
            }
        }
        return found;
    }

    private static void shape(Map<String, List<String>> methods) {
        methods.forEach((name, body) -> {
            due(name + " is long", body.size() <= 60);
            due(name + " has many parameters", body.get(0).split(",").length <= 7);
            for (String line : body.subList(1, body.size())) {
                due("a call within a call: " + line, !line.matches(".*\\b[a-z]\\w*\\([^;]*\\b[a-z]\\w*\\(.*"));
                due("a loop that does not count: " + line, !line.matches(".*\\b(while|do)\\b.*"));
            }
        });
    }

    private static void calls(Map<String, List<String>> methods) {
        Map<String, TreeSet<String>> called = new TreeMap<>();
        methods.forEach((name, body) -> {
            TreeSet<String> names = new TreeSet<>();
            for (String line : body.subList(1, body.size())) {
                Matcher call = CALL.matcher(line);
                while (call.find()) if (methods.containsKey(call.group(1))) names.add(call.group(1));
            }
            called.put(name, names);
        });
        for (String name : called.keySet()) due(name + " calls more than six deep", depth(name, called, 1) <= 6);
    }

    private static int depth(String name, Map<String, TreeSet<String>> called, int above) {
        int deepest = above;
        // Past twenty it is recursion.
        if (above > 20) return above;
        for (String inner : called.get(name)) deepest = Math.max(deepest, depth(inner, called, above + 1));
        return deepest;
    }
}
