import static java.lang.Integer.MAX_VALUE;
import static java.lang.Integer.MIN_VALUE;

import java.util.function.Consumer;

/** Promises 12 to 18: the run and what is told of it. */
final class RunSentences {
    private static final String TEN = TermSentences.TEN;
    private static final String TEN_ANSWERS = TermSentences.TEN_ANSWERS;
    private static final String TEN_SHOWN = TermSentences.TEN_SHOWN;
    private static final int NONE = NestedFilters.NONE;
    private static final int LONG = NestedFilters.LONG;

    private RunSentences() {
    }

    static void tryAll() {
        run();
        answers();
        counted();
        items();
        kind();
        number();
        xIsNotLookedAt();
        endings();
        countedErrors();
        order();
        tellsOfNow();
        appliedAnew();
        valuesOfRuns();
    }

    private static NestedFilters of(String values, String filter) {
        NestedFilters x = Words.input(values);
        Words.filter(x, filter);
        return x;
    }

    private static void due(String what, int got, int want) {
        Sentences.due(what, got, want);
    }

    private static void run() {
        Sentences.says("`int run()`: How the run ends.");
        due("at the end", of(TEN, "each").run(), NestedFilters.DONE);
        due("without an answer", of(TEN, "none").run(), NestedFilters.DONE);
        due("with 19 answers", of(TEN, CodeSentences.giving(19)).run(), NestedFilters.DONE);
        due("with 20 answers", of(TEN, CodeSentences.giving(20)).run(), NestedFilters.MORE);
        due("with an error", of(TEN, "fail").run(), NestedFilters.FAILED);
        due("with 601 counted", of(TEN, "each each each none name:0 name:0 name:0").run(), NestedFilters.TIRED);
        due("without a filter", Words.input(TEN).run(), NestedFilters.NO_FILTER);
        NestedFilters x = of(TEN, "each");
        for (int time = 0; time < 3; time++) due("again", x.run(), NestedFilters.DONE);
    }

    private static void answers() {
        Sentences.says("`int answers()`: The number of answers that the run has.");
        for (int many = 0; many <= 22; many++) {
            due("answers of " + many, of(TEN, CodeSentences.giving(many)).answers(), Math.min(many, 20));
        }
        NestedFilters x = of(TEN, "each");
        for (int time = 0; time < 3; time++) due("again", x.answers(), 10);
    }

    private static void counted() {
        Sentences.says("`int counted()`: How much was counted by the run.");
        due("the least", of(TEN, "none").counted(), 1);
        due("40 parts", of("7 in", "same" + " try".repeat(39)).counted(), 40);
        due("the most", of(TEN, TermSentences.BURN + " each also" + " try".repeat(9)).counted(), 600);
        due("no more than that", of(TEN, TermSentences.BURN + " each also" + " try".repeat(10)).counted(), 600);
        due("one less", of(TEN, TermSentences.BURN + " each also" + " try".repeat(8)).counted(), 599);
        NestedFilters x = of(TEN, "each");
        for (int time = 0; time < 3; time++) due("again", x.counted(), 11);
    }

    /** Five rows of 10 items and four nulls, within three arrays: 60 items. */
    private static final String SIXTY = "same same also same also same also same also" + " null also".repeat(4);
    private static final String ROW = "1 2 3 4 5 6 7 8 [8 in";

    private static void items() {
        Sentences.says("`int items(int i)`: The number of items of answer i: null, false, true or a number is one; an array "
            + "\"[\", its values, \"]\"; an object \"{\", for each key the key and its value, \"}\".");
        String[] values = {"null", "false", "true", "-7", "[0", "7 [1", "1 2 3 4 5 6 7 8 9 10 [10", "{", "7 {3",
            "0 1 2 3 4 5 6 7 {01234567", "[0 [0 [2", "7 {3 {4", "7 {3 [1", "[0 [1 [1 [1", "7 [1 {1 [1 {1"};
        int[] many = {1, 1, 1, 1, 2, 3, 12, 2, 4, 18, 6, 7, 6, 8, 11};
        for (int i = 0; i < values.length; i++) due("items of " + values[i], of(values[i] + " in", "same").items(0), many[i]);
        NestedFilters x = of("7 [1 null {5 [2 in", "deep");
        int[] within = {9, 3, 1, 4, 1};
        for (int i = 0; i < within.length; i++) due("items(" + i + ")", x.items(i), within[i]);

        Sentences.says("NONE if there is none;");
        for (int i : new int[] {MIN_VALUE, -2, -1, 5, 6, 19, 20, MAX_VALUE}) due("items(" + i + ")", x.items(i), NONE);
        due("of a run without an answer", of(TEN, "none").items(0), NONE);
        due("of a run without a filter", Words.input(TEN).items(0), NONE);
        due("the last of 20", of(TEN, CodeSentences.giving(22)).items(19), 1);
        due("behind the last of 20", of(TEN, CodeSentences.giving(22)).items(20), NONE);
        due("the one before an error", of(TEN, "same fail also").items(0), 12);
        due("where the error is", of(TEN, "same fail also").items(1), NONE);

        Sentences.says("LONG.");
        due("59 items", of(ROW, SIXTY.replaceFirst(" null also", "") + " all all all").items(0), 59);
        due("60 items", of(ROW, SIXTY + " all all all").items(0), 60);
        due("61 items", of(ROW, SIXTY + " null also all all all").items(0), LONG);
        // Three rows of an object of 18 items, in an array, in an array or an object.
        String row = "0 1 2 3 4 5 6 7 {01234567 in";
        due("60 items with keys", of(row, "same same also same also null also null also all all").items(0), 60);
        due("61 items with keys", of(row, "same same also same also null also null also all make:0").items(0), LONG);
        due("ten times ten times ten times ten", tenThousand().items(0), LONG);
        x = of(ROW, SIXTY + " null also all all all same also");
        due("a long one is an answer", x.answers(), 2);
        due("the long one", x.items(0), LONG);
        due("the one behind it", x.items(1), 10);
        due("behind both", x.items(2), NONE);
    }

    private static NestedFilters tenThousand() {
        String wide = "same each ?0 then all name:0";
        return of(TEN, wide + " " + wide + " then " + wide + " then");
    }

    private static void kind() {
        Sentences.says("`int kind(int i, int j)`: Of item j of answer i: 0 null, 1 false, 2 true, 3 a number, 4 \"[\", 5 "
            + "\"]\", 6 \"{\", 7 a key, 8 \"}\".");
        NestedFilters x = of("null false true -5 [4 0 [0 {47 { [3 in", "same true also");
        int[] kinds = {4, 4, 0, 1, 2, 3, 5, 6, 7, 3, 7, 4, 5, 8, 6, 8, 5};
        due("items", x.items(0), kinds.length);
        for (int j = 0; j < kinds.length; j++) due("kind(0, " + j + ")", x.kind(0, j), kinds[j]);
        due("kind(1, 0)", x.kind(1, 0), 2);
        due("the last of 60", of(ROW, SIXTY + " all all all").kind(0, 59), 5);

        Sentences.says("NONE if there is none, or items answers LONG.");
        for (int j : new int[] {MIN_VALUE, -2, -1, 17, 18, 60, MAX_VALUE}) due("kind(0, " + j + ")", x.kind(0, j), NONE);
        for (int j : new int[] {MIN_VALUE, -1, 1, 2, MAX_VALUE}) due("kind(1, " + j + ")", x.kind(1, j), NONE);
        for (int i : new int[] {MIN_VALUE, -1, 2, 20, MAX_VALUE}) {
            for (int j : new int[] {MIN_VALUE, -1, 0, 1, MAX_VALUE}) due("kind(" + i + ", " + j + ")", x.kind(i, j), NONE);
        }
        due("without an answer", of(TEN, "none").kind(0, 0), NONE);
        due("without a filter", Words.input(TEN).kind(0, 0), NONE);
        due("behind the last of 60", of(ROW, SIXTY + " all all all").kind(0, 60), NONE);
        x = of(ROW, SIXTY + " null also all all all same also");
        for (int j : new int[] {MIN_VALUE, -1, 0, 1, 4, 59, 60, 61, MAX_VALUE}) due("of a long one, " + j, x.kind(0, j), NONE);
        due("behind a long one", x.kind(1, 0), 4);
        due("of a very long one", tenThousand().kind(0, 5), NONE);
    }

    private static void number() {
        Sentences.says("`int number(int i, int j)`: The number, or key, that item j of answer i is; else 0.");
        NestedFilters x = of("-2147483648 2147483647 null false true [5 -1 -1000000004 {07 [2 in", "same num:9 also");
        int[] numbers = {0, 0, MIN_VALUE, MAX_VALUE, 0, 0, 0, 0, 0, 0, -1, 7, -1000000004, 0, 0};
        due("items", x.items(0), numbers.length);
        for (int j = 0; j < numbers.length; j++) due("number(0, " + j + ")", x.number(0, j), numbers[j]);
        due("number(1, 0)", x.number(1, 0), 9);
        for (int k = 0; k < 8; k++) due("the key " + k, of("5 in", "same make:" + k).number(0, 1), k);
        for (int j : new int[] {MIN_VALUE, -2, -1, 15, 16, 60, MAX_VALUE}) due("number(0, " + j + ")", x.number(0, j), 0);
        for (int j : new int[] {MIN_VALUE, -1, 1, 2, MAX_VALUE}) due("number(1, " + j + ")", x.number(1, j), 0);
        for (int i : new int[] {MIN_VALUE, -1, 2, 20, MAX_VALUE}) {
            for (int j : new int[] {MIN_VALUE, -1, 0, 1, MAX_VALUE}) due("number(" + i + ", " + j + ")", x.number(i, j), 0);
        }
        due("without an answer", of(TEN, "none").number(0, 0), 0);
        due("without a filter", Words.input("7 in").number(0, 0), 0);
        due("one of 60", of(ROW, SIXTY + " all all all").number(0, 51), 8);
        x = of(ROW, SIXTY + " null also all all all same also");
        for (int j = 0; j <= 61; j++) due("of a long one, " + j, x.number(0, j), 0);
        due("behind a long one", x.number(1, 8), 8);
    }

    private static void xIsNotLookedAt() {
        Sentences.says("For kinds, ops and filters that do not use x, x may be any int and is not looked at.");
        for (int k : new int[] {MIN_VALUE, -11, -1, 0, 1, 2, 3, 8, 10, 255, MAX_VALUE}) {
            for (int kind = 0; kind < 3; kind++) {
                NestedFilters x = new NestedFilters();
                due("value(" + kind + ", " + k + ")", x.value(kind, k), 1);
                x.input();
                x.leaf(0, 0);
                due("its kind", x.kind(0, 0), kind);
                due("its number", x.number(0, 0), 0);
            }
            for (int op = 0; op < 16; op++) {
                if (op != 4 && op != 5 && op != 6 && op != 13) same("leaf " + op + " with " + k, "", op, k);
            }
            for (int op : new int[] {0, 1, 3}) same("one " + op + " with " + k, "each", op, k);
            for (int op = 0; op < 12; op++) same("two " + op + " with " + k, "each each", op, k);
            same("if with " + k, "each num:1 num:2", 0, k);
        }
    }

    /** The op behind some filters, with this x and with 0: both runs are the same. */
    private static void same(String what, String filters, int op, int k) {
        NestedFilters x = pushed(filters, op, k);
        Sentences.due(what, Words.told(x), Words.told(pushed(filters, op, 0)));
        due(what + " is one filter", x.scrap(), 1);
    }

    private static NestedFilters pushed(String filters, int op, int k) {
        NestedFilters x = Words.input("4 null [2 in");
        int many = filters.isEmpty() ? 0 : filters.split(" ").length;
        if (many > 0) Words.filter(x, filters);
        int on = switch (many) {
            case 0 -> x.leaf(op, k);
            case 1 -> x.one(op, k);
            case 2 -> x.two(op, k);
            default -> x.three(op, k);
        };
        due("pushed", on, 1);
        return x;
    }

    private static void endings() {
        Sentences.says("If there is not exactly one filter on the stack run answers NO_FILTER, and answers and counted answer "
            + "0;");
        for (int many = 0; many <= 8; many++) {
            NestedFilters x = Words.input("7 in");
            for (int i = 0; i < many; i++) x.leaf(0, 0);
            due("run with " + many, x.run(), many == 1 ? NestedFilters.DONE : NestedFilters.NO_FILTER);
            due("answers with " + many, x.answers(), many == 1 ? 1 : 0);
            due("counted with " + many, x.counted(), many == 1 ? 1 : 0);
            due("items with " + many, x.items(0), many == 1 ? 1 : NONE);
            due("kind with " + many, x.kind(0, 0), many == 1 ? 3 : NONE);
            due("number with " + many, x.number(0, 0), many == 1 ? 7 : 0);
        }
        Sentences.says("a run that ends with FAILED, MORE or TIRED has the answers that came before.");
        for (int many = 0; many <= 19; many++) {
            NestedFilters x = of(TEN, CodeSentences.giving(many) + " fail also");
            due("FAILED behind " + many, x.run(), NestedFilters.FAILED);
            due("answers before it", x.answers(), many);
            if (many > 0) due("the last before it", x.number(many - 1, 0), (many - 1) % 10);
            String weary = " each each each none name:0 name:0 name:0 also";
            x = of(TEN, CodeSentences.giving(many) + weary);
            due("TIRED behind " + many, x.run(), NestedFilters.TIRED);
            due("answers before it", x.answers(), many);
            due("counted then", x.counted(), 600);
            if (many > 0) due("the last before it", x.number(many - 1, 0), (many - 1) % 10);
        }
        Sentences.run(TEN, CodeSentences.giving(21), "MORE 24:" + TEN_ANSWERS + TEN_ANSWERS);
    }

    private static void countedErrors() {
        Sentences.says("make, the filters with a sign (for each x and each y), and and or count what they are about to make "
            + "before they see whether it is an error; so an error of theirs was counted, one of each, field, index and the "
            + "like was not.");
        Sentences.run("[0 [1 [1 [1 in", "same make:0", "FAILED 3:");
        for (String sign : "+ - * / %".split(" ")) {
            Sentences.run("true in", "same same " + sign, "FAILED 4:");
            Sentences.run("1 true [2 in", "num:1 each " + sign + " kind then", "FAILED 9: 3");
            Sentences.run("1 true [2 in", "each num:1 " + sign + " kind then", "FAILED 10: 3");
        }
        Sentences.run("1 in", "same num:0 /", "FAILED 4:");
        Sentences.run("1 in", "same num:0 %", "FAILED 4:");
        Sentences.run(TEN, "same same +", "FAILED 4:");
        Sentences.run("7 in", "same fail and", "FAILED 3:");
        Sentences.run("7 in", "null fail or", "FAILED 3:");
        for (String leaf : "each field:0 index:0 size keys fail".split(" ")) Sentences.run("true in", leaf, "FAILED 1:");
        Sentences.run("[0 [1 [1 [1 in", "same all", "FAILED 2:");

        Sentences.says("deep counts each of its answers once; going on into the values of a value is no application of a "
            + "filter.");
        String value = "0 [1 [1 [1 1 2 {45 [2 in";
        String shown = "[[[[0]]],{4:1,5:2}] [[[0]]] [[0]] [0] 0 {4:1,5:2} 1 2";
        Sentences.run(value, "deep", "DONE 9: " + shown);
        for (int n = 1; n <= 8; n++) {
            due("the first " + n, of(value, "deep first:" + n).counted(), n + 2);
            due("the first " + n, of(value, "deep first:" + n).answers(), n);
        }
        Sentences.run("[0 [1 [1 [1 in", "deep", "DONE 5: [[[[]]]] [[[]]] [[]] []");
        due("deep of 10000", of10000Deep().run(), NestedFilters.MORE);
        due("deep of 10000 counts", of10000Deep().counted(), 99);
    }

    /** Its value counts 77 (three times 25 and two), then and deep are applied, and give 20 answers. */
    private static NestedFilters of10000Deep() {
        NestedFilters x = tenThousand();
        Words.filter(x, "deep then");
        return x;
    }

    private static void order() {
        Sentences.says("first with n = 0 does not apply A.");
        for (String a : "same each none fail".split(" ")) Sentences.run(TEN, a + " first:0", "DONE 1:");
        Sentences.run(TEN, "each each + first:0 all", "DONE 2: []");
        Sentences.run("7 in", "fail first:0 first:9", "DONE 2:");

        Sentences.says("size of the least int is that int (wrapping).");
        Sentences.run("-2147483648 in", "size", "DONE 1: -2147483648");
        Sentences.run("-2147483647 in", "size", "DONE 1: 2147483647");

        Sentences.says("fold works B out first, then A, answer by answer, with C for each.");
        Sentences.run("1 2 [2 in", "fail none fail fold:0", "FAILED 3:");
        Sentences.run("1 2 [2 in", "fail fail fail fold:0", "FAILED 2:");
        Sentences.run("1 2 [2 in", "fail each fail fold:0", "FAILED 5:");
        // C fails for the first answer of A: the second one is not worked out any more.
        Sentences.run("1 2 [2 in", "each null fail fold:0", "FAILED 5:");
        Sentences.run("1 0 2 [3 in", "each num:8 same ?0 / fold:0", "FAILED 13:");
        Sentences.run("1 2 [2 in", "each fail also num:5 same fold:0", "FAILED 9:");
        Sentences.run("1 2 3 [3 in", "each none all same ?0 all + fold:0", "DONE 22: [1,2,3]");

        Sentences.says("A else B: the answers of B come if A gave no answer that is not empty, whether A ended with an error "
            + "or not.");
        Sentences.run("7 in", "none num:8 else", "DONE 3: 8");
        Sentences.run("7 in", "fail num:8 else", "DONE 3: 8");
        Sentences.run("7 in", "null false also num:8 else", "DONE 5: 8");
        Sentences.run("7 in", "null false also fail also num:8 else", "DONE 7: 8");
        Sentences.run("7 in", "null true also fail also num:8 else", "DONE 6: true");
        Sentences.run("7 in", "null true also num:8 else", "DONE 4: true");
    }

    private static final String NOW = "1 2 [2 5 [1 in";

    /** A change of the filter or the input, and what the run of each of them is then. */
    private static void changed(String what, String filters, Consumer<NestedFilters> change, int[] want) {
        for (int first = 0; first < 6; first++) {
            for (int ranBefore = 0; ranBefore < 2; ranBefore++) {
                NestedFilters x = of(NOW, filters);
                if (ranBefore == 1) Words.told(x);
                change.accept(x);
                due(what + ", told by " + first, tell(x, first), want[first]);
                for (int other = 0; other < 6; other++) due(what + ", then by " + other, tell(x, other), want[other]);
            }
        }
    }

    private static int tell(NestedFilters x, int which) {
        return switch (which) {
            case 0 -> x.run();
            case 1 -> x.answers();
            case 2 -> x.counted();
            case 3 -> x.items(0);
            case 4 -> x.kind(0, 0);
            default -> x.number(0, 0);
        };
    }

    private static void tellsOfNow() {
        Sentences.says("answers, counted, items, kind and number tell, like run, of the run of the filter that is on the stack "
            + "now with the input as it is now, whether run was called or not.");
        int[] none = {NestedFilters.NO_FILTER, 0, 0, NONE, NONE, 0};
        changed("nothing", "each", x -> { }, new int[] {0, 1, 2, 1, 3, 5});
        changed("input", "each", x -> x.input(), new int[] {0, 2, 3, 1, 3, 1});
        changed("forget", "each", x -> x.forget(), new int[] {NestedFilters.FAILED, 0, 1, NONE, NONE, 0});
        changed("scrap", "each", x -> x.scrap(), none);
        changed("leaf", "each", x -> x.leaf(0, 0), none);
        changed("one", "each", x -> x.one(0, 0), new int[] {0, 1, 3, 3, 4, 0});
        changed("two", "each num:9", x -> x.two(0, 0), new int[] {0, 1, 4, 1, 3, 9});
        changed("three", "each num:3 num:4", x -> x.three(0, 0), new int[] {0, 1, 4, 1, 3, 3});
        changed("scrap and leaf", "each", x -> {
            x.scrap();
            x.leaf(4, 6);
        }, new int[] {0, 1, 1, 1, 3, 6});
        changed("values", "each", x -> {
            x.value(3, 9);
            x.array(1);
            x.object(2);
        }, new int[] {0, 1, 2, 1, 3, 5});
        changed("a refused call", "each", x -> x.two(0, 0), new int[] {0, 1, 2, 1, 3, 5});
        runsBehindRuns();
        NestedFilters x = of("7 in", "same");
        for (int time = 0; time < 100; time++) {
            x.value(3, time);
            if (time >= 39) x.forget();
            x.input();
            due("input " + time, x.number(0, 0), time < 39 ? time : 0);
        }
    }

    /** A run knows nothing of what the run before it left: each filter is run behind each other one. */
    private static void runsBehindRuns() {
        String numbers = "num:1 num:2 also num:3 also";
        String[] filters = {"same", "num:1 num:2 +", "none none fail fold:0", "each none ?0 fold:0", "each all keys then",
            "each ?0 name:0 ?0 also", "none all none all =", "num:5 num:5 =", "each each none name:0 name:0 keys also",
            "num:1 num:2 also all num:3 num:4 also all <", "none all index:0 then", "deep fail also", "each num:8 else",
            TermSentences.BURN + " each also" + " try".repeat(9),
            numbers + (" " + numbers + " then").repeat(3) + " num:4 then".repeat(7) + " none then"};
        for (String filter : filters) {
            for (String other : filters) {
                NestedFilters x = Words.input(TEN);
                Sentences.due(other + " behind " + filter, toldOf(x, filter) + toldOf(x, other),
                    Words.told(of(TEN, filter)) + Words.told(of(TEN, other)));
            }
        }
    }

    private static String toldOf(NestedFilters x, String filter) {
        x.scrap();
        Words.filter(x, filter);
        return Words.told(x);
    }

    private static void appliedAnew() {
        Sentences.says("In A then B, the filters with a sign, and, or, name, if and fold (its C), the filter behind A is applied "
            + "anew (and that is counted) for each answer of A that needs it, when it is needed;");
        String three = "1 2 3 [3 in";
        Sentences.run(three, "each null then", "DONE 8: null null null");
        for (String sign : "+ - * / %".split(" ")) Sentences.run(three, "each num:1 " + sign + " kind then", "DONE 15: 3 3 3");
        Sentences.run(three, "each num:2 <", "DONE 11: true false false");
        Sentences.run(three, "each num:2 =", "DONE 11: false true false");
        Sentences.run(three, "each true and", "DONE 11: true true true");
        Sentences.run("1 null 3 [3 in", "each true and", "DONE 10: true false true");
        Sentences.run("1 null false [3 in", "each true or", "DONE 10: true true true");
        Sentences.run(three, "each ?0 name:0", "DONE 8: 1 2 3");
        Sentences.run("1 null 3 [3 in", "each num:1 num:2 if", "DONE 8: 1 2 1");
        Sentences.run(three, "each null ?0 fold:0", "DONE 9: 3");
        // Not before it is needed: the first answer needs the first of A and one B alone.
        Sentences.run(three, "each null then first:1", "DONE 5: null");
        Sentences.run(three, "each num:1 + first:1", "DONE 6: 2");
        Sentences.run(three, "each true and first:1", "DONE 6: true");
        Sentences.run(three, "each fail or first:1", "DONE 5: true");
        Sentences.run(three, "each ?0 name:0 first:1", "DONE 5: 1");
        Sentences.run(three, "each num:1 fail if first:1", "DONE 5: 1");
        Sentences.says("in also and else B is applied once.");
        Sentences.run(three, "each null also", "DONE 6: 1 2 3 null");
        Sentences.run(three, "each fail also first:3", "DONE 6: 1 2 3");
        Sentences.run("null null null [3 in", "each num:1 else", "DONE 6: 1");
        Sentences.run(three, "none each else", "DONE 6: 1 2 3");
    }

    private static void valuesOfRuns() {
        Sentences.says("40 values, FULL: those that value, array and object made; what a run makes does not count.");
        NestedFilters x = new NestedFilters();
        Words.filter(x, "num:1 all num:2 all + num:3 make:0 also");
        for (int i = 1; i <= 13; i++) {
            due("value " + i, x.value(3, i), 1);
            due("array " + i, x.array(1), 1);
            due("object " + i, x.object(1), 1);
            x.input();
            due("a run between", x.answers(), 2);
        }
        due("the 40th", x.value(3, 40), 1);
        Sentences.due("the run still makes its values", Words.told(x), "DONE 10: [1,2] {0:3}");
        due("no 41st value", x.value(3, 41), NestedFilters.FULL);
        due("no 41st array", x.array(0), NestedFilters.FULL);
        due("no 41st object", x.object(0), NestedFilters.FULL);
        x.input();
        x.scrap();
        Words.filter(x, "same num:5 also");
        Sentences.due("the 40th and what a run makes", Words.told(x), "DONE 3: 40 5");
        mostValues();
        // What was refused was not made.
        x = new NestedFilters();
        for (int i = 0; i < 50; i++) {
            x.value(4, 0);
            x.array(1);
            x.array(11);
            x.object(1);
            x.object(256);
        }
        for (int i = 1; i <= 12; i++) due("value " + i, x.value(3, i), i);
        for (int i = 0; i < 50; i++) due("refused", x.array(0), NestedFilters.FULL);
        for (int i = 12; i < 40; i++) due("array " + i, x.array(1), i < 16 ? 12 : NestedFilters.FULL);
        due("16 were made by then", x.input(), 11);
        for (int i = 16; i < 40; i++) due("value " + i, x.value(0, 0) == 12 ? x.input() : -1, 11);
        due("the 41st", x.value(0, 0), NestedFilters.FULL);
    }

    /** Nearly all that is counted makes a value here: five for each array that is taken away, and what is left. */
    private static void mostValues() {
        String values = "[0 [0 [0 [0 [4 [0 [0 [0 [0 [0 [0 [0 [0 [0 [10 in";
        String filter = "deep" + " num:5 all all all all -".repeat(6);
        String shown = " [[[],[],[],[]],[],[],[],[],[],[],[],[],[]] [[],[],[],[]]" + " []".repeat(12);
        Sentences.run(values, filter + " num:5 all -", "TIRED 600:" + shown);
        Sentences.run(values, filter + " keys -", "DONE 593:" + shown + " []");
        Sentences.run(values, filter + " keys - try", "DONE 594:" + shown + " []");
    }
}
