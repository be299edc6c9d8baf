/**
 * Calls written as words, the way they come on the stacks. Values: null, false, true, a number, [3
 * (an array of three), {02 (an object with the keys 0 and 2), in (it becomes the input). Filters:
 * the document's words, with :x where one is needed; ?0 asks for name 0.
 */
final class Words {
    private static final String[] LEAVES = {"same", "null", "false", "true", "num", "field", "index", "each",
        "none", "fail", "size", "keys", "kind", "?", "not", "deep"};
    private static final String[] ONES = {"all", "try", "first", "keep", "make"};
    private static final String[] TWOS = {"then", "also", "+", "-", "*", "/", "%", "<", "=", "and", "or", "else", "name"};
    private static final String[] THREES = {"if", "fold"};
    private static final String[] ENDINGS = {"DONE", "MORE", "FAILED", "TIRED", "NO_FILTER"};

    private Words() {
    }

    static NestedFilters input(String values) {
        NestedFilters x = new NestedFilters();
        values(x, values);
        return x;
    }

    static void values(NestedFilters x, String words) {
        for (String word : words.split(" ")) {
            switch (word.charAt(0)) {
                case 'n' -> taken(word, x.value(0, 0));
                case 'f' -> taken(word, x.value(1, 0));
                case 't' -> taken(word, x.value(2, 0));
                case '[' -> taken(word, x.array(Integer.parseInt(word.substring(1))));
                case '{' -> taken(word, x.object(keys(word)));
                case 'i' -> taken(word, x.input());
                default -> taken(word, x.value(3, Integer.parseInt(word)));
            }
        }
    }

    private static int keys(String word) {
        int keys = 0;
        for (int i = 1; i < word.length(); i++) keys |= 1 << (word.charAt(i) - '0');
        return keys;
    }

    static void filter(NestedFilters x, String words) {
        for (String word : words.split(" ")) {
            String spaced = word.startsWith("?") ? "?:" + word.substring(1) : word;
            String[] parts = spaced.split(":");
            int k = parts.length > 1 ? Integer.parseInt(parts[1]) : 0;
            int leaf = at(LEAVES, parts[0]);
            int one = at(ONES, parts[0]);
            int two = at(TWOS, parts[0]);
            int three = at(THREES, parts[0]);
            if (leaf >= 0) taken(word, x.leaf(leaf, k));
            else if (one >= 0) taken(word, x.one(one, k));
            else if (two >= 0) taken(word, x.two(two, k));
            else if (three >= 0) taken(word, x.three(three, k));
            else throw new IllegalArgumentException("no such word: " + word);
        }
    }

    private static int at(String[] words, String word) {
        for (int i = 0; i < words.length; i++) if (words[i].equals(word)) return i;
        return -1;
    }

    private static void taken(String word, int answer) {
        if (answer < 0) throw new IllegalStateException(word + " was refused with " + answer);
    }

    /** How the run ends, how much it counted, and its answers: "DONE 3: [1,2] null". */
    static String told(NestedFilters x) {
        StringBuilder out = new StringBuilder(ENDINGS[x.run()] + " " + x.counted() + ":");
        for (int i = 0; i < x.answers(); i++) out.append(' ').append(answer(x, i));
        return out.toString();
    }

    static String answer(NestedFilters x, int i) {
        int many = x.items(i);
        if (many == NestedFilters.LONG) return "LONG";
        StringBuilder out = new StringBuilder();
        boolean comma = false;
        for (int j = 0; j < many; j++) {
            int kind = x.kind(i, j);
            boolean closes = kind == 5 || kind == 8;
            if (comma && !closes) out.append(',');
            out.append(switch (kind) {
                case 0 -> "null";
                case 1 -> "false";
                case 2 -> "true";
                case 3 -> String.valueOf(x.number(i, j));
                case 4 -> "[";
                case 5 -> "]";
                case 6 -> "{";
                case 7 -> x.number(i, j) + ":";
                case 8 -> "}";
                default -> "<kind " + kind + ">";
            });
            comma = kind < 4 || closes;
        }
        return out.toString();
    }
}
