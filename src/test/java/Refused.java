import java.util.ArrayList;
import java.util.List;
import java.util.Set;
import java.util.TreeSet;
import java.util.function.Function;
import java.util.function.ToIntFunction;

/**
 * The calls that can be refused, in states where one limit or another is reached. The object that
 * refused it is held against one that was never asked: all that can be seen of both must agree.
 */
final class Refused {
    private static final int LEAST = Integer.MIN_VALUE;
    private static final int MOST = Integer.MAX_VALUE;
    private static final String[] CODES = {"BAD_ARG", "FULL", "TOO_FEW", "NONE", "LONG"};

    private record Call(String method, String shown, ToIntFunction<NestedFilters> made) {
    }

    private static final String THIRTY_THREE = "0 1 2 3 4 5 6 7 8 9 [10 in ".repeat(3);
    private static final String LONG_ONE = "same same also same also same also same also all";

    /** What is on the stack of values, and what is on the stack of filters. */
    private static final String[][] STATES = {
        {"", ""},
        {"", "same"},
        {"5 in", "each"},
        {"1 2 [2 in 3 4", "each fail also"},
        {"1 2 [2 in 3 4 5", "each each"},
        {"1 in 0 1 2 3 4 5 6 7 8 9", "num:1 num:2 num:3 num:4 num:5 num:6 num:7"},
        {"1 in 0 1 2 3 4 5 6 7 8 9 10", "num:1 num:2 num:3 num:4 num:5 num:6 num:7 num:8"},
        {"1 in 0 1 2 3 4 5 6 7 8 9 10 [0", "num:1 num:2 num:3 num:4 num:5 num:6 num:7 num:8"},
        {"1 in 2 [0 [1 [1 [1", "same"},
        {"1 in { {1 {1 {1 2", "same none all also"},
        {THIRTY_THREE + "1 2 3 4 5 6", "each" + " try".repeat(38)},
        {THIRTY_THREE + "1 2 3 4 5 6 7", "each" + " try".repeat(39)},
        {THIRTY_THREE + "1 in 2 in 3 in 4 in 5 in 6 in 7 in", "num:1 num:2 num:3" + " try".repeat(36)},
        {THIRTY_THREE + "[0 [1 [1 [1 1 2 3", "num:1 num:2 num:3" + " try".repeat(37)},
        {THIRTY_THREE + "8", LONG_ONE},
        {THIRTY_THREE + "8", "each each also"},
        {THIRTY_THREE + "8", "each each each none name:0 name:0 name:0"},
    };

    private static final List<Call> CALLS = new ArrayList<>();

    private Refused() {
    }

    static void tryAll() {
        stackCalls();
        filterCalls();
        lookingCalls();
        Set<String> seen = new TreeSet<>();
        for (String[] state : STATES) {
            for (Call call : CALLS) tryCall(state, call, seen);
        }
        Set<String> due = Set.of("value BAD_ARG", "value FULL", "array BAD_ARG", "array FULL", "array TOO_FEW",
            "object BAD_ARG", "object FULL", "object TOO_FEW", "input TOO_FEW", "leaf BAD_ARG", "leaf FULL", "one BAD_ARG",
            "one FULL", "one TOO_FEW", "two BAD_ARG", "two FULL", "two TOO_FEW", "three BAD_ARG", "three FULL",
            "three TOO_FEW", "items NONE", "items LONG", "kind NONE");
        Sentences.due("what was refused", seen.toString(), new TreeSet<>(due).toString());
    }

    private static void stackCalls() {
        for (int kind : new int[] {LEAST, -1, 0, 1, 2, 3, 4, MOST}) add("value", kind, 99, x -> x.value(kind, 99));
        for (int n : new int[] {LEAST, -1, 0, 1, 2, 3, 4, 5, 6, 7, 8, 9, 10, 11, MOST}) add("array", n, 0, x -> x.array(n));
        for (int keys : new int[] {LEAST, -1, 0, 1, 128, 3, 7, 15, 31, 63, 127, 255, 256, MOST}) {
            add("object", keys, 0, x -> x.object(keys));
        }
        add("input", 0, 0, x -> x.input());
    }

    private static void filterCalls() {
        int[] bounds = {LEAST, -11, -1, 0, 2, 3, 7, 8, 9, 10, MOST};
        for (int op : new int[] {LEAST, -1, 0, 1, 2, 3, 4, 5, 6, 7, 8, 9, 10, 11, 12, 13, 14, 15, 16, MOST}) {
            for (int k : bounds) {
                add("leaf", op, k, x -> x.leaf(op, k));
                add("one", op, k, x -> x.one(op, k));
                add("two", op, k, x -> x.two(op, k));
                add("three", op, k, x -> x.three(op, k));
            }
        }
    }

    private static void lookingCalls() {
        for (int i : new int[] {LEAST, -1, 0, 1, 2, 19, 20, MOST}) {
            add("items", i, 0, x -> x.items(i));
            for (int j : new int[] {LEAST, -1, 0, 1, 60, 61, MOST}) add("kind", i, j, x -> x.kind(i, j));
        }
    }

    private static void add(String method, int a, int b, ToIntFunction<NestedFilters> made) {
        CALLS.add(new Call(method, method + " of " + a + " and " + b, made));
    }

    private static NestedFilters in(String[] state) {
        NestedFilters x = new NestedFilters();
        if (!state[0].isEmpty()) Words.values(x, state[0]);
        if (!state[1].isEmpty()) Words.filter(x, state[1]);
        return x;
    }

    private static void tryCall(String[] state, Call call, Set<String> seen) {
        int answer = call.made.applyAsInt(in(state));
        int code = NestedFilters.BAD_ARG - answer;
        if (code < 0 || code >= CODES.length) return;
        seen.add(call.method + " " + CODES[code]);
        String what = call.shown + " in the state " + String.join(" | ", state);
        for (Function<NestedFilters, String> look : List.<Function<NestedFilters, String>>of(
            Words::told, Refused::values, Refused::filters, Refused::roomForValues, Refused::roomForParts)) {
            NestedFilters asked = in(state);
            for (int time = 0; time < 3; time++) Sentences.due(what + " again", call.made.applyAsInt(asked), answer);
            Sentences.due(what, look.apply(asked), look.apply(in(state)));
        }
        NestedFilters ranBefore = in(state);
        String told = Words.told(ranBefore);
        call.made.applyAsInt(ranBefore);
        Sentences.due(what + " behind a run", Words.told(ranBefore), told);
    }

    /** The input and what is on the stack of values, from the top. */
    private static String values(NestedFilters x) {
        x.scrap();
        Words.filter(x, "same");
        StringBuilder seen = new StringBuilder(Words.told(x));
        for (int left = x.input(); left >= 0; left = x.input()) seen.append(" | ").append(left).append(Words.told(x));
        return seen.toString();
    }

    /** What all filters on the stack do, one behind the other, as far as there is room to join them. */
    private static String filters(NestedFilters x) {
        StringBuilder seen = new StringBuilder();
        for (int left = x.two(1, 0); left > 0; left = x.two(1, 0)) seen.append(left).append(' ');
        return seen + Words.told(x) + " of " + x.scrap();
    }

    private static String roomForValues(NestedFilters x) {
        for (int left = x.input(); left > 0; left = x.input()) continue;
        int room = 0;
        for (int on = x.value(0, 0); on > 0 && x.input() == 0; on = x.value(0, 0)) room++;
        return String.valueOf(room);
    }

    private static String roomForParts(NestedFilters x) {
        StringBuilder seen = new StringBuilder();
        for (int on = x.leaf(0, 0); on > 0; on = x.leaf(0, 0)) seen.append(on).append(' ');
        for (int on = x.one(1, 0); on > 0; on = x.one(1, 0)) seen.append('.');
        return seen.toString();
    }
}
