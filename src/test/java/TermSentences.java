import static java.lang.Integer.MAX_VALUE;
import static java.lang.Integer.MIN_VALUE;

/** What it is, and the terms up to the filters: values, and what is counted. */
final class TermSentences {
    static final String TEN = "0 1 2 3 4 5 6 7 8 9 [10 in";
    static final String TEN_ANSWERS = " 0 1 2 3 4 5 6 7 8 9";
    static final String TEN_SHOWN = " [0,1,2,3,4,5,6,7,8,9]";

    /** Counts 580 on TEN without an answer; the filter that is told behind it is applied then. */
    static final String BURN = "each each < none then each each none then name:0 also each none then also";
    private static final int BURNT = 580;

    private TermSentences() {
    }

    static void tryAll() {
        whatItIs();
        numbers();
        arraysAndObjects();
        emptyOnes();
        depth();
        order();
        filters();
        counting();
        tired();
    }

    private static void whatItIs() {
        Sentences.says("Filters on nested values: a filter makes of a value any number of answers, one after the other, and "
            + "only as many as are wanted are worked out.");
        for (int many = 0; many <= 9; many++) {
            String want = (many == 0 ? 1 : many + 2) + ":" + TEN_ANSWERS.substring(0, 2 * many);
            Sentences.run(TEN, "each first:" + many, "DONE " + want);
        }
        Sentences.run(TEN, "each fail also first:9", "DONE 12: 0 1 2 3 4 5 6 7 8");

        Sentences.says("An object is used for at most 512 calls after it has been made; what later calls answer is free.");
        NestedFilters x = new NestedFilters();
        for (int round = 0; round < 32; round++) sixteenCalls(x, round);
    }

    /** The last one of the 32nd time is the 512th call. */
    private static void sixteenCalls(NestedFilters x, int n) {
        x.forget();
        Sentences.due("scrap", x.scrap(), n == 0 ? 0 : 1);
        Sentences.due("value", x.value(3, n), 1);
        Sentences.due("value", x.value(n % 3, n), 2);
        Sentences.due("array", x.array(2), 1);
        Sentences.due("input", x.input(), 0);
        Sentences.due("each", x.leaf(7, n), 1);
        Sentences.due("number", x.leaf(4, n), 2);
        Sentences.due("=", x.two(8, n), 1);
        Sentences.due("run", x.run(), NestedFilters.DONE);
        Sentences.due("answers", x.answers(), 2);
        Sentences.due("counted", x.counted(), 8);
        Sentences.due("all", x.one(0, n), 1);
        Sentences.due("items", x.items(0), 4);
        Sentences.due("number", x.number(0, 1), 0);
        Sentences.due("kind", x.kind(0, 1), 2);
    }

    private static void made(int x, String sign, int y, int want) {
        Sentences.run(x + " " + y + " [2 in", "index:0 index:1 " + sign, "DONE 4: " + want);
    }

    private static void numbers() {
        Sentences.says("VALUES are null, false, true, numbers (ints, arithmetic wraps),");
        for (int n : new int[] {MIN_VALUE, MIN_VALUE + 1, -1, 0, 1, MAX_VALUE - 1, MAX_VALUE}) {
            Sentences.run(n + " in", "same", "DONE 1: " + n);
            Sentences.run("null in", "num:" + n, "DONE 1: " + n);
        }
        made(MAX_VALUE, "+", 0, MAX_VALUE);
        made(MAX_VALUE, "+", 1, MIN_VALUE);
        made(MIN_VALUE, "+", -1, MAX_VALUE);
        made(MAX_VALUE, "+", MAX_VALUE, -2);
        made(MIN_VALUE, "+", MIN_VALUE, 0);
        made(MIN_VALUE, "-", 0, MIN_VALUE);
        made(MIN_VALUE, "-", 1, MAX_VALUE);
        made(MAX_VALUE, "-", -1, MIN_VALUE);
        made(0, "-", MIN_VALUE, MIN_VALUE);
        made(MIN_VALUE, "-", MAX_VALUE, 1);
        made(46340, "*", 46340, 2147395600);
        made(46341, "*", 46341, -2147479015);
        made(65536, "*", 65536, 0);
        made(MAX_VALUE, "*", 2, -2);
        made(MAX_VALUE, "*", MAX_VALUE, 1);
        made(MIN_VALUE, "*", -1, MIN_VALUE);
        made(MIN_VALUE, "/", 1, MIN_VALUE);
        made(MIN_VALUE, "/", -1, MIN_VALUE);
        made(MAX_VALUE, "/", -1, -MAX_VALUE);
        made(MIN_VALUE, "%", -1, 0);
        Sentences.run("1 2 3 [3 in", "each num:2147483646 same ?0 + fold:0", "DONE 18: -2147483644");
    }

    private static void arraysAndObjects() {
        Sentences.says("ARRAYS (lists of at most 10 values)");
        Sentences.run("[0 in", "same", "DONE 1: []");
        Sentences.run(TEN, "same", "DONE 1:" + TEN_SHOWN);
        Sentences.run(TEN, "each all", "DONE 12:" + TEN_SHOWN);
        Sentences.run(TEN, "each null also all", "FAILED 14:");
        Sentences.run(TEN, "same none all +", "DONE 5:" + TEN_SHOWN);
        Sentences.run(TEN, "same null all +", "FAILED 5:");
        NestedFilters x = new NestedFilters();
        for (int i = 0; i < 11; i++) x.value(3, i);
        Sentences.due("an array of eleven", x.array(11), NestedFilters.BAD_ARG);
        Sentences.due("an array of ten", x.array(10), 2);

        Sentences.says("and OBJECTS (for some of the keys 0 to 7 a value).");
        for (int keys = 0; keys < 256; keys++) oneObject(keys);
    }

    /** The object has 10 + k for each key k of the set. */
    private static void oneObject(int keys) {
        NestedFilters x = new NestedFilters();
        StringBuilder whole = new StringBuilder();
        StringBuilder list = new StringBuilder();
        for (int k = 0; k < 8; k++) {
            if ((keys & 1 << k) == 0) continue;
            x.value(3, 10 + k);
            whole.append(",").append(k).append(":").append(10 + k);
            list.append(",").append(k);
        }
        Sentences.due("object(" + keys + ")", x.object(keys), 1);
        x.input();
        Words.filter(x, "same keys also size also");
        String want = "{" + comma(whole) + "} [" + comma(list) + "] " + Integer.bitCount(keys);
        Sentences.due("the object of " + keys, Words.told(x), "DONE 5: " + want);
        for (int k = 0; k < 8; k++) {
            x.scrap();
            Words.filter(x, "field:" + k);
            String value = (keys & 1 << k) == 0 ? "null" : String.valueOf(10 + k);
            Sentences.due("field " + k + " of " + keys, Words.told(x), "DONE 1: " + value);
        }
    }

    private static String comma(StringBuilder list) {
        return list.length() == 0 ? "" : list.substring(1);
    }

    private static void emptyOnes() {
        Sentences.says("null and false are EMPTY, all others are not.");
        for (String v : new String[] {"null", "false"}) isEmpty(v, true);
        for (String v : new String[] {"true", "0", "-1", "-2147483648", "[0", "{", "null [1", "false [1", "null {0"}) {
            isEmpty(v, false);
        }
    }

    private static void isEmpty(String value, boolean empty) {
        String v = value + " in";
        Sentences.run(v, "not", "DONE 1: " + empty);
        Sentences.run(v, "same keep kind then all", empty ? "DONE 4: []" : "DONE 5: [" + kindOf(value) + "]");
        Sentences.run(v, "same num:1 num:2 if", "DONE 3: " + (empty ? 2 : 1));
        Sentences.run(v, "same num:1 and", empty ? "DONE 3: false" : "DONE 4: true");
        Sentences.run(v, "num:1 same and", "DONE 4: " + !empty);
        Sentences.run(v, "same null or", empty ? "DONE 4: false" : "DONE 3: true");
        Sentences.run(v, "null same or", "DONE 4: " + !empty);
        Sentences.run(v, "same num:7 else size then try", empty ? "DONE 6: 7" : "DONE 5:" + sizeOf(value));
    }

    private static int kindOf(String value) {
        if (value.contains("[")) return 4;
        if (value.contains("{")) return 5;
        return value.equals("true") ? 2 : 3;
    }

    private static String sizeOf(String value) {
        if (value.equals("true")) return "";
        if (kindOf(value) == 3) return value.equals("-1") ? " 1" : " " + value;
        return value.contains(" ") ? " 1" : " 0";
    }

    private static void depth() {
        Sentences.says("The DEPTH of an array or object is 1 more than the greatest of the values in it (1 if there is "
            + "none), that of others 0; it is at most 4.");
        for (String around : new String[] {"[1", "{3"}) {
            for (String inmost : new String[] {"[0", "{", "null [1", "7 {0"}) {
                String three = inmost + (" " + around).repeat(2);
                deepestIs(three, false);
                deepestIs(three + " " + around, true);
            }
            // What is not an array or object has depth 0, so it takes one level more.
            for (String plain : new String[] {"null", "false", "true", "7"}) {
                deepestIs(plain + (" " + around).repeat(3), false);
                deepestIs(plain + (" " + around).repeat(4), true);
            }
        }
        // The greatest of the values decides, wherever it stands.
        deepestIs("1 [0 [1 [1 2 [3", true);
        deepestIs("[0 [1 [1 1 2 [3", true);
        deepestIs("1 2 [0 [1 [1 [3", true);
        deepestIs("[0 [0 [1 [2", false);
        deepestIs("[0 { {4 {46", false);
    }

    /** Whether nothing can be put around a value any more: by array, object, all and make. */
    private static void deepestIs(String value, boolean deepest) {
        Sentences.due("array around " + value, Words.input(value).array(1), deepest ? NestedFilters.FULL : 1);
        Sentences.due("object around " + value, Words.input(value).object(64), deepest ? NestedFilters.FULL : 1);
        NestedFilters x = Words.input("2 " + value);
        Sentences.due("array of 2 and " + value, x.array(2), deepest ? NestedFilters.FULL : 1);
        x = Words.input(value + " 2");
        Sentences.due("object of " + value + " and 2", x.object(129), deepest ? NestedFilters.FULL : 1);
        for (String filter : new String[] {"same all", "same make:0"}) {
            x = Words.input(value + " in");
            Words.filter(x, filter);
            int ending = deepest ? NestedFilters.FAILED : NestedFilters.DONE;
            Sentences.due(filter + " of " + value, x.run(), ending);
        }
    }

    /** Each value comes before all that stand behind it here. */
    private static final String[] IN_ORDER = {"null", "false", "true", "-2147483648", "-2147483647", "-1", "0", "1",
        "2147483646", "2147483647", "[0", "null [1", "null null [2", "false [1", "1 [1", "1 null [2", "1 1 [2", "1 2 [2",
        "1 2 0 [3", "2 [1", "[0 [1", "[0 0 [2", "1 [1 [1", "1 [1 5 [2", "1 0 [2 [1", "2 [1 [1", "{ [1", "5 {0 [1", "{",
        "5 {0", "6 {0", "[0 {0", "0 0 {01", "0 1 {01", "1 0 {01", "0 0 0 {012", "0 0 0 0 0 0 0 0 {01234567", "0 0 {02",
        "0 0 {07", "0 {1", "0 [1 {1", "1 [1 {1", "0 0 {12", "0 0 {67", "0 {7", "{ {7"};

    private static void order() {
        Sentences.says("The ORDER of values: null, false, true, then numbers by size, then arrays (as in a dictionary), "
            + "then objects, by the lists of their keys as arrays, and if these are the same by their values, in the "
            + "order of the keys, as arrays.");
        pairs("<", false);
        Sentences.says("Values are the SAME if neither comes before the other.");
        pairs("=", true);
        Sentences.run("1 {4 2 [2 1 {4 2 [2 [2 in", "index:0 index:1 =", "DONE 4: true");
        Sentences.run("1 {4 2 [2 1 {4 3 [2 [2 in", "index:0 index:1 =", "DONE 4: false");
        madeInOtherWays();
        oneBehindTheOther();
        largeOnes();
        largestOnes();
    }

    /** It does not matter how a value was made. */
    private static void madeInOtherWays() {
        for (int n : new int[] {0, 1, 2, 10}) {
            StringBuilder places = new StringBuilder();
            for (int i = 0; i < n; i++) places.append(i).append(' ');
            String v = places + "[" + n + " in";
            for (String way : new String[] {"keys", "each all", "same none all +", "none all same +", "same none all -"}) {
                for (String other : new String[] {"same", "keys", "each all", "none all same +", "same none all -"}) {
                    NestedFilters x = Words.input(v);
                    Words.filter(x, way + " " + other + " =");
                    Sentences.due(way + " = " + other + " of " + n, Words.answer(x, 0), "true");
                    x = Words.input(v);
                    Words.filter(x, way + " " + other + " <");
                    Sentences.due(way + " < " + other + " of " + n, Words.answer(x, 0), "false");
                }
            }
        }
        Sentences.run("6 {3 in", "same num:6 make:3 =", "DONE 6: true");
        Sentences.run("6 7 {34 in", "same num:6 make:3 num:7 make:4 + =", "DONE 11: true");
        Sentences.run("6 in", "same num:3 num:3 + =", "DONE 7: true");
    }

    /** What one comparison found is nothing to the next one. */
    private static void oneBehindTheOther() {
        Sentences.run("1 5 [2 [1 2 6 [2 [1 3 [1 3 [1 [4 in", "index:0 index:1 < index:2 index:3 = also", "DONE 9: true true");
        Sentences.run("1 5 [2 2 6 [2 3 7 [2 4 7 [2 [4 in", "index:0 index:1 < index:2 index:3 = also",
            "DONE 9: true false");
        Sentences.run("1 2 [2 3 4 [2 [2 1 2 [2 3 5 [2 [2 [2 in", "index:0 index:1 < index:1 index:0 < also index:0 "
            + "index:1 = also", "DONE 14: true false false");
    }

    private static void largeOnes() {
        // Ten times ten times ten values, made anew for each side.
        String wide = "same each ?0 then all name:0";
        String wider = wide + " " + wide + " then";
        Sentences.run(TEN, wider + " " + wider + " =", "DONE 104: true");
        Sentences.run(TEN, wider + " " + wider + " <", "DONE 104: false");
        // Ten times ten that differ in the very last one.
        String greater = "same each ?0 then first:9 each first:9 num:10 also all also all name:0";
        Sentences.run(TEN, wide + " " + greater + " <", "DONE 66: true");
        Sentences.run(TEN, greater + " " + wide + " <", "DONE 66: false");
        Sentences.run(TEN, wide + " " + greater + " =", "DONE 66: false");
        // The inmost of four arrays decides.
        String one = "1 [1 [1 [1 [1 in";
        for (int n = 0; n <= 2; n++) {
            Sentences.run(one, "same num:" + n + " all all all all =", "DONE 8: " + (n == 1));
            Sentences.run(one, "same num:" + n + " all all all all <", "DONE 8: " + (n == 2));
            Sentences.run(one, "num:" + n + " all all all all same <", "DONE 8: " + (n == 0));
        }
    }

    /** Two values of ten times ten times ten times ten: they differ in the very last one alone. */
    private static void largestOnes() {
        String values = "0 0 0 0 0 0 0 0 0 1 [10 in";
        String zeros = "each first:3 each num:0 then all same each ?1 then all name:1 fold:0";
        // From what has a 1 at its end alone: nine of what has zeros alone, and itself behind them.
        String onlyZeros = "index:0 each ?1 then all name:1";
        String oneAtTheEnd = "each first:3 same " + onlyZeros + " each first:9 ?2 then same also all name:2 fold:0";
        Sentences.run(values, zeros + " " + oneAtTheEnd + " <", "DONE 263: true");
        Sentences.run(values, oneAtTheEnd + " " + zeros + " <", "DONE 263: false");
        Sentences.run(values, zeros + " " + oneAtTheEnd + " =", "DONE 263: false");
        Sentences.run(values, oneAtTheEnd + " " + oneAtTheEnd + " =", "DONE 316: true");
        Sentences.run(values, oneAtTheEnd + " " + oneAtTheEnd + " <", "DONE 316: false");
        // Nine are among the other ten; the last one is compared with all ten, and stays.
        Sentences.run(values, oneAtTheEnd + " " + zeros + " - size then", "DONE 265: 1");
    }

    private static void pairs(String sign, boolean same) {
        for (int i = 0; i < IN_ORDER.length; i++) {
            for (int j = 0; j < IN_ORDER.length; j++) {
                String pair = IN_ORDER[i] + " " + IN_ORDER[j] + " [2 in";
                Sentences.run(pair, "index:0 index:1 " + sign, "DONE 4: " + (same ? i == j : i < j));
            }
        }
    }

    private static void filters() {
        Sentences.says("FILTERS are made on a stack.");
        NestedFilters x = Words.input("7 in");
        Words.filter(x, "num:1 num:2 num:3");
        Sentences.due("A is below B and C", x.three(0, 0), 1);
        Sentences.due("the one filter of three", Words.told(x), "DONE 3: 2");

        Sentences.says("Applied to a value v (its INPUT) a filter gives ANSWERS in order, and may end with an ERROR "
            + "instead of its end; what is not wanted any more is not worked out.");
        Sentences.run("3 1 2 [3 in", "each", "DONE 4: 3 1 2");
        Sentences.run("3 1 2 [3 in", "each fail also", "FAILED 6: 3 1 2");
        Sentences.run("3 1 2 [3 in", "each fail also first:3", "DONE 6: 3 1 2");
        Sentences.run("3 1 2 [3 in", "each each + first:1", "DONE 7: 6");
        Sentences.run("3 1 2 [3 in", "each each each + + first:1", "DONE 11: 9");
        Sentences.run("3 1 2 [3 in", "each deep first:1 fail if first:2", "DONE 11: [3,1,2] [3,1,2]");

        Sentences.says("If a filter within it ends with an error, so does a filter, where nothing else is said.");
        for (String one : "all first:1 keep make:0".split(" ")) Sentences.run("7 in", "fail " + one, "FAILED 2:");
        for (String two : "then also + - * / % < = and or name:0".split(" ")) {
            Sentences.run("7 in", "fail same " + two, "FAILED 2:");
            if (!two.equals("or") && !two.equals("also")) Sentences.run("7 in", "same fail " + two, "FAILED 3:");
        }
        Sentences.run("7 in", "null fail or", "FAILED 3:");
        Sentences.run("7 in", "same fail also", "FAILED 3: 7");
        Sentences.run("7 in", "null fail else", "FAILED 3:");
        Sentences.run("7 in", "fail same same if", "FAILED 2:");
        Sentences.run("7 in", "same fail same if", "FAILED 3:");
        Sentences.run("7 in", "null same fail if", "FAILED 3:");
        Sentences.run("7 in", "fail same same fold:0", "FAILED 3:");
        Sentences.run("7 in", "same fail same fold:0", "FAILED 2:");
        Sentences.run("7 in", "same same fail fold:0", "FAILED 4:");
        Sentences.run("7 in", "same fail also same then", "FAILED 5: 7");
    }

    private static void counting() {
        Sentences.says("Whenever a filter is applied this is COUNTED, and so is each answer of each, deep, make, the "
            + "filters with a sign (+ to =), and, or, before it is made;");
        for (String leaf : "same null false true num:5 index:0 size keys kind ?0 not".split(" ")) {
            Sentences.run(TEN, leaf + " none then", "DONE 3:");
        }
        Sentences.run(TEN, "none", "DONE 1:");
        Sentences.run(TEN, "fail", "FAILED 1:");
        Sentences.run(TEN, "each", "DONE 11:" + TEN_ANSWERS);
        Sentences.run(TEN, "deep", "DONE 12:" + TEN_SHOWN + TEN_ANSWERS);
        Sentences.run("7 in", "deep", "DONE 2: 7");
        for (String one : "all try first:1 keep".split(" ")) Sentences.run("7 in", "same " + one + " none then", "DONE 4:");
        Sentences.run("7 in", "same make:0 none then", "DONE 5:");
        Sentences.run("7 in", "same same then", "DONE 3: 7");
        Sentences.run("7 in", "same same also", "DONE 3: 7 7");
        for (String sign : "+ - * / % < =".split(" ")) {
            Sentences.run("7 in", "same same " + sign + " none then", "DONE 6:");
            Sentences.run("7 in", "same same also same " + sign + " none then", "DONE 11:");
        }
        Sentences.run("7 in", "same same and", "DONE 4: true");
        Sentences.run("7 in", "null same and", "DONE 3: false");
        Sentences.run("7 in", "null same or", "DONE 4: true");
        Sentences.run("7 in", "same null or", "DONE 3: true");
        Sentences.run("7 in", "same null else", "DONE 2: 7");
        Sentences.run("7 in", "null same else", "DONE 3: 7");
        Sentences.run("7 in", "same ?0 name:0", "DONE 3: 7");
        Sentences.run("7 in", "same same same if", "DONE 3: 7");
        Sentences.run("7 in", "same same same fold:0", "DONE 4: 7");
    }

    private static void tired() {
        Sentences.says("when 600 were counted and one more would be, the run is TIRED.");
        Sentences.run(TEN, BURN + " none also", "DONE " + (BURNT + 1) + ":");
        for (String leaf : "same null false true num:5 index:0 size keys kind ?0 not".split(" ")) {
            NestedFilters x = Words.input(TEN);
            Words.filter(x, leaf);
            limit(leaf, 1, "DONE", " " + Words.answer(x, 0), "");
        }
        limit("none", 1, "DONE", "", "");
        limit("fail", 1, "FAILED", "", "");
        limit("field:0", 1, "FAILED", "", "");
        limit("each", 11, "DONE", TEN_ANSWERS, " 0 1 2 3 4 5 6 7 8");
        limit("deep", 12, "DONE", TEN_SHOWN + TEN_ANSWERS, TEN_SHOWN + " 0 1 2 3 4 5 6 7 8");
        tiredOnes();
        tiredTwos();
        tiredThrees();
        // Nothing but applications: three answers of three of three, and so on.
        String three = "null null also null also";
        Sentences.run("7 in", three + (" " + three + " then").repeat(4) + " none then", "TIRED 600:");
        // As far as a run can go between what is counted: 37 filters down to each, and up again.
        String nulls = "null ".repeat(10) + "[10 in";
        Sentences.run(nulls, "each each each name:0 name:1" + " try".repeat(34) + " keep", "TIRED 600:");
        Sentences.run(nulls, "each each name:0" + " try".repeat(34) + " keep keep", "DONE 158:");
        // Neither try nor else is an end of it.
        Sentences.run(TEN, BURN + " same also num:1 else num:1 else" + " try".repeat(18), "TIRED 600:");
    }

    private static void tiredOnes() {
        limit("same all", 2, "DONE", " [" + TEN_SHOWN.substring(1) + "]", "");
        limit("same try", 2, "DONE", TEN_SHOWN, "");
        limit("fail try", 2, "DONE", "", "");
        limit("same first:1", 2, "DONE", TEN_SHOWN, "");
        limit("fail first:0", 1, "DONE", "", "");
        limit("same keep", 2, "DONE", TEN_SHOWN, "");
        limit("num:3 make:7", 3, "DONE", " {7:3}", "");
        limit("each first:2 make:7", 7, "DONE", " {7:0} {7:1}", " {7:0}");
        limit("same all all all all", 5, "FAILED", "", "");
        limit("each null also all", 14, "FAILED", "", "");
        limit("same all all all make:0", 6, "FAILED", "", "");
    }

    private static void tiredTwos() {
        limit("same size then", 3, "DONE", " 10", "");
        limit("each first:2 kind then", 7, "DONE", " 3 3", " 3");
        limit("null true also", 3, "DONE", " null true", " null");
        String[] signs = {"+ 9", "- 3", "* 18", "/ 2", "% 0", "< false", "= false"};
        for (String s : signs) limit("num:6 num:3 " + s.substring(0, 1), 4, "DONE", s.substring(1), "");
        for (String s : "+ - * / %".split(" ")) limit("true num:1 " + s, 4, "FAILED", "", "");
        limit("num:1 num:0 /", 4, "FAILED", "", "");
        limit("num:1 num:0 %", 4, "FAILED", "", "");
        limit("same same +", 4, "FAILED", "", "");
        limit("each first:2 num:1 +", 9, "DONE", " 1 2", " 1");
        limit("num:1 each first:2 +", 8, "DONE", " 1 2", " 1");
        limit("null fail and", 3, "DONE", " false", "");
        limit("true same and", 4, "DONE", " true", "");
        limit("true each first:2 and", 8, "DONE", " true true", " true");
        limit("true fail or", 3, "DONE", " true", "");
        limit("null same or", 4, "DONE", " true", "");
        limit("each first:2 fail or", 7, "DONE", " true true", " true");
        limit("true fail else", 2, "DONE", " true", "");
        limit("null true else", 3, "DONE", " true", "");
        limit("fail true else", 3, "DONE", " true", "");
        limit("true ?1 name:1", 3, "DONE", " true", "");
        limit("each first:2 ?1 name:1", 7, "DONE", " 0 1", " 0");
    }

    private static void tiredThrees() {
        limit("true num:1 fail if", 3, "DONE", " 1", "");
        limit("null fail num:1 if", 3, "DONE", " 1", "");
        limit("none true fail fold:0", 3, "DONE", " true", "");
        limit("true null ?0 fold:0", 4, "DONE", " true", "");
        limit("each first:2 null ?0 fold:0", 8, "DONE", " 1", "");
    }

    /**
     * A filter that counts so many on TEN, so far behind others that its last one is the 600th: it
     * ends as it should. One more around it, and its last one is too many; and so on, until it is
     * itself too many. What is put around changes nothing but what is counted.
     */
    private static void limit(String filter, int counts, String ending, String answers, String before) {
        String around = ending.equals("FAILED") ? " first:9" : " try";
        String whole = BURN + " " + filter + " also";
        int reached = 600 - BURNT - counts;
        Sentences.run(TEN, whole + around.repeat(reached), ending + " 600:" + answers);
        Sentences.run(TEN, whole + around.repeat(reached + 1), "TIRED 600:" + before);
        int most = Math.min(reached + counts, 40 - whole.split(" ").length);
        for (int more = reached + 2; more <= most; more++) {
            NestedFilters x = Words.input(TEN);
            Words.filter(x, whole + around.repeat(more));
            Sentences.due(filter + " behind " + more, x.run(), NestedFilters.TIRED);
            Sentences.due(filter + " behind " + more + ", counted", x.counted(), 600);
        }
    }
}
