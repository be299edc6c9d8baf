/** The calls of each promise but run: ordinary ones, the edges that the document names, wrong ones. */
public final class PromisesTest {
    private static final int BAD_ARG = NestedFilters.BAD_ARG;
    private static final int FULL = NestedFilters.FULL;
    private static final int TOO_FEW = NestedFilters.TOO_FEW;
    private static final int NONE = NestedFilters.NONE;
    private static final int LONG = NestedFilters.LONG;
    private static final int LEAST = Integer.MIN_VALUE;
    private static final int MOST = Integer.MAX_VALUE;

    private static int wrong = 0;
    private static int right = 0;

    private static void due(String what, int got, int want) {
        due(what, String.valueOf(got), String.valueOf(want));
    }

    private static void due(String what, String got, String want) {
        if (got.equals(want)) {
            right++;
        } else {
            wrong++;
            System.out.println(what + ": " + got + ", due is " + want);
        }
    }

    public static void main(String[] args) {
        newObject();
        forget();
        value();
        valuesMadeAreCounted();
        array();
        object();
        input();
        leaf();
        one();
        two();
        three();
        fortyParts();
        scrap();
        runAnswersCounted();
        items();
        kindAndNumber();
        xIsNotLookedAt();
        tellsOfNow();
        System.out.println(right + " passed, " + wrong + " failed");
        if (wrong != 0) System.exit(1);
    }

    private static void values(NestedFilters x, int many) {
        for (int i = 0; i < many; i++) x.value(3, i);
    }

    private static String shown(String values, String filter) {
        NestedFilters x = Words.input(values);
        Words.filter(x, filter);
        return Words.told(x);
    }

    private static void newObject() {
        NestedFilters x = new NestedFilters();
        due("1 no value", x.input(), TOO_FEW);
        due("1 no filter", x.scrap(), 0);
        due("1 no filter to run", x.run(), NestedFilters.NO_FILTER);
        Words.filter(x, "same");
        due("1 the input", Words.told(x), "DONE 1: null");
        due("1 the first value", x.value(3, 5), 1);
    }

    private static void forget() {
        NestedFilters x = Words.input("5 in 6 7");
        Words.filter(x, "same");
        due("2 before", Words.told(x), "DONE 1: 5");
        x.forget();
        due("2 the input", Words.told(x), "DONE 1: null");
        due("2 the stack", x.input(), TOO_FEW);
        due("2 the filters stay", x.scrap(), 1);
        for (int i = 0; i < 4; i++) {
            values(x, 10);
            x.array(10);
            x.input();
        }
        due("2 40 made", x.value(0, 0), FULL);
        x.forget();
        due("2 40 again", x.value(0, 0), 1);
        x.forget();
        x.forget();
        due("2 twice", x.value(2, 0), 1);
        forgottenValuesAreGone();
    }

    /** The array [1] is made where a longer one was before. */
    private static void forgottenValuesAreGone() {
        NestedFilters x = Words.input("5 9 9 [2 in");
        x.forget();
        Words.values(x, "null 8 1 [1 1 0 [2 [2 in");
        Words.filter(x, "index:0 index:1 <");
        due("2 the shorter one comes first", Words.told(x), "DONE 4: true");
        x.scrap();
        Words.filter(x, "index:0 index:1 then");
        due("2 it has one place", Words.told(x), "DONE 3: null");
        x.scrap();
        Words.filter(x, "index:1 index:0 <");
        due("2 the longer one comes second", Words.told(x), "DONE 4: false");
    }

    private static void value() {
        NestedFilters x = new NestedFilters();
        due("3 kind -1", x.value(-1, 0), BAD_ARG);
        due("3 kind 4", x.value(4, 0), BAD_ARG);
        due("3 kind least", x.value(LEAST, 0), BAD_ARG);
        due("3 kind most", x.value(MOST, 0), BAD_ARG);
        for (int kind = 0; kind < 4; kind++) due("3 kind " + kind, x.value(kind, 9), kind + 1);
        x.array(4);
        x.input();
        Words.filter(x, "same");
        due("3 what they are", Words.told(x), "DONE 1: [null,false,true,9]");
        for (int i = 1; i <= 12; i++) due("3 value " + i, x.value(3, i), i);
        due("3 the thirteenth", x.value(3, 13), FULL);
        due("3 BAD_ARG comes first", x.value(4, 13), BAD_ARG);
        due("3 refused, nothing changed", x.input(), 11);
        due("3 nothing changed, the input", Words.told(x), "DONE 1: 12");
        x.forget();
        x.value(3, LEAST);
        x.value(3, MOST);
        x.array(2);
        x.input();
        due("3 the ends of the ints", Words.told(x), "DONE 1: [-2147483648,2147483647]");
    }

    private static void valuesMadeAreCounted() {
        NestedFilters x = new NestedFilters();
        for (int i = 0; i < 3; i++) {
            values(x, 11);
            x.array(11);
            x.array(10);
            x.input();
            x.input();
        }
        // 36 by now; what was refused does not count.
        x.value(7, 0);
        x.array(-1);
        x.array(3);
        x.object(3);
        due("18 37th", x.array(0), 1);
        due("18 38th", x.object(0), 2);
        due("18 39th", x.value(0, 0), 3);
        due("18 40th", x.array(2), 2);
        due("18 no 41st value", x.value(1, 1), FULL);
        due("18 no 41st array", x.array(0), FULL);
        due("18 no 41st object", x.object(1), FULL);
        due("4 FULL comes before TOO_FEW", x.array(9), FULL);
        due("5 FULL comes before TOO_FEW", x.object(255), FULL);
        due("4 BAD_ARG comes before FULL", x.array(11), BAD_ARG);
        due("5 BAD_ARG comes before FULL", x.object(256), BAD_ARG);
        due("3 BAD_ARG comes before FULL", x.value(-1, 0), BAD_ARG);
        due("18 taking one off makes no room", x.input(), 1);
        due("18 still full", x.value(1, 1), FULL);
        Words.filter(x, "same all all");
        due("18 what a run makes does not count", Words.told(x), "DONE 3: [[[{},null]]]");
        x.forget();
        due("2 room again", x.value(1, 1), 1);
    }

    private static void array() {
        NestedFilters x = new NestedFilters();
        due("4 n -1", x.array(-1), BAD_ARG);
        due("4 n 11", x.array(11), BAD_ARG);
        due("4 n least", x.array(LEAST), BAD_ARG);
        due("4 n most", x.array(MOST), BAD_ARG);
        due("4 too few", x.array(1), TOO_FEW);
        due("4 empty", x.array(0), 1);
        values(x, 10);
        due("4 one more than there is", x.array(10), 2);
        due("4 too few of them", x.array(3), TOO_FEW);
        due("4 of both", x.array(2), 1);
        x.input();
        Words.filter(x, "same");
        due("4 the top is the last", Words.told(x), "DONE 1: [[],[0,1,2,3,4,5,6,7,8,9]]");
        x.forget();
        values(x, 12);
        due("4 would hold 13", x.array(0), FULL);
        due("4 12 again", x.array(1), 12);
        due("4 fewer", x.array(2), 11);
        x.forget();
        x.array(0);
        for (int depth = 2; depth <= 4; depth++) due("4 depth " + depth, x.array(1), 1);
        due("4 too deep", x.array(1), FULL);
        due("4 too deep as an object", x.object(8), FULL);
        x.input();
        due("4 still as it was", Words.told(x), "DONE 1: [[[[]]]]");
        x.forget();
        Words.values(x, "[0 [1 [1 [1 3");
        due("4 the deepest decides", x.array(2), FULL);
        due("4 without it", x.array(1), 2);
    }

    private static void object() {
        NestedFilters x = new NestedFilters();
        due("5 keys -1", x.object(-1), BAD_ARG);
        due("5 keys 256", x.object(256), BAD_ARG);
        due("5 keys least", x.object(LEAST), BAD_ARG);
        due("5 too few", x.object(128), TOO_FEW);
        due("5 empty", x.object(0), 1);
        x.value(3, 7);
        due("5 too few of them", x.object(7), TOO_FEW);
        due("5 of both", x.object(130), 1);
        x.input();
        Words.filter(x, "same");
        due("5 the top has the greatest key", Words.told(x), "DONE 1: {1:{},7:7}");
        values(x, 9);
        due("5 all keys", x.object(255), 2);
        x.input();
        due("5 all in order", Words.told(x), "DONE 1: {0:1,1:2,2:3,3:4,4:5,5:6,6:7,7:8}");
        x.forget();
        values(x, 12);
        due("5 would hold 13", x.object(0), FULL);
        due("5 12 again", x.object(1), 12);
        x.forget();
        x.object(0);
        for (int depth = 2; depth <= 4; depth++) due("5 depth " + depth, x.object(1), 1);
        due("5 too deep", x.object(1), FULL);
        due("5 too deep as an array", x.array(1), FULL);
        due("5 nothing was taken", x.input(), 0);
        due("5 still as it was", Words.told(x), "DONE 1: {0:{0:{0:{}}}}");
    }

    private static void input() {
        NestedFilters x = new NestedFilters();
        due("6 too few", x.input(), TOO_FEW);
        values(x, 3);
        due("6 two left", x.input(), 2);
        Words.filter(x, "same");
        due("6 the top one", Words.told(x), "DONE 1: 2");
        due("6 one left", x.input(), 1);
        due("6 the next one", Words.told(x), "DONE 1: 1");
        due("6 none left", x.input(), 0);
        due("6 too few again", x.input(), TOO_FEW);
        due("6 refused, the input stays", Words.told(x), "DONE 1: 0");
    }

    private static void leaf() {
        NestedFilters x = new NestedFilters();
        int[][] bad = {{-1, 0}, {16, 0}, {LEAST, 0}, {MOST, 0}, {5, -1}, {5, 8}, {6, -11}, {6, 10}, {6, LEAST},
            {13, -1}, {13, 3}, {13, MOST}};
        for (int[] b : bad) due("7 leaf(" + b[0] + ", " + b[1] + ")", x.leaf(b[0], b[1]), BAD_ARG);
        int[][] good = {{5, 0}, {5, 7}, {6, -10}, {6, 9}, {13, 0}, {13, 2}, {4, LEAST}};
        for (int i = 0; i < good.length; i++) {
            due("7 leaf(" + good[i][0] + ", " + good[i][1] + ")", x.leaf(good[i][0], good[i][1]), i + 1);
        }
        due("7 the eighth", x.leaf(4, MOST), 8);
        due("7 no ninth", x.leaf(0, 0), FULL);
        due("7 BAD_ARG comes first", x.leaf(5, 8), BAD_ARG);
        due("7 joining makes room", x.two(1, 0), 7);
        due("7 room", x.leaf(0, 0), 8);
        String[][] ops = {{"same", "[7]"}, {"null", "null"}, {"false", "false"}, {"true", "true"}, {"num:3", "3"},
            {"index:0", "7"}, {"size", "1"}, {"keys", "[0]"}, {"kind", "4"}, {"?1", "null"}, {"not", "false"}};
        for (String[] op : ops) due("7 " + op[0], shown("7 [1 in", op[0]), "DONE 1: " + op[1]);
        due("7 field", shown("7 {5 in", "field:5"), "DONE 1: 7");
        due("7 each", shown("7 [1 in", "each"), "DONE 2: 7");
        due("7 none", shown("7 [1 in", "none"), "DONE 1:");
        due("7 fail", shown("7 [1 in", "fail"), "FAILED 1:");
        due("7 deep", shown("7 [1 in", "deep"), "DONE 3: [7] 7");
    }

    private static void one() {
        NestedFilters x = new NestedFilters();
        due("8 too few", x.one(0, 0), TOO_FEW);
        int[][] bad = {{-1, 0}, {5, 0}, {LEAST, 0}, {MOST, 0}, {2, -1}, {2, 10}, {4, -1}, {4, 8}, {4, LEAST}};
        for (int[] b : bad) due("8 BAD_ARG one(" + b[0] + ", " + b[1] + ")", x.one(b[0], b[1]), BAD_ARG);
        x.leaf(0, 0);
        x.leaf(0, 0);
        int[][] good = {{0, 0}, {1, 0}, {2, 0}, {2, 9}, {3, 0}, {4, 0}, {4, 7}};
        for (int[] g : good) due("8 one(" + g[0] + ", " + g[1] + ")", x.one(g[0], g[1]), 2);
        due("8 all", shown("7 in", "same all"), "DONE 2: [7]");
        due("8 try", shown("7 in", "same fail also try"), "DONE 4: 7");
        due("8 first", shown("7 8 [2 in", "each first:1"), "DONE 3: 7");
        due("8 keep", shown("7 in", "true keep"), "DONE 2: 7");
        due("8 make", shown("7 in", "same make:3"), "DONE 3: {3:7}");
    }

    private static void two() {
        NestedFilters x = new NestedFilters();
        int[][] bad = {{-1, 0}, {13, 0}, {LEAST, 0}, {MOST, 0}, {12, -1}, {12, 3}, {12, MOST}};
        for (int[] b : bad) due("9 BAD_ARG two(" + b[0] + ", " + b[1] + ")", x.two(b[0], b[1]), BAD_ARG);
        due("9 none at all", x.two(0, 0), TOO_FEW);
        x.leaf(0, 0);
        for (int op = 0; op < 13; op++) due("9 too few for " + op, x.two(op, 0), TOO_FEW);
        for (int op = 0; op < 13; op++) {
            due("9 another", x.leaf(4, 2), 2);
            due("9 two(" + op + ", 2)", x.two(op, 2), 1);
        }
        due("9 a long one runs", x.run() == NestedFilters.NO_FILTER ? 0 : 1, 1);
        String[][] ops = {{"then", "DONE 3: 3"}, {"also", "DONE 3: 7 3"}, {"+", "DONE 4: 10"}, {"-", "DONE 4: 4"},
            {"*", "DONE 4: 21"}, {"/", "DONE 4: 2"}, {"%", "DONE 4: 1"}, {"<", "DONE 4: false"},
            {"=", "DONE 4: false"}, {"and", "DONE 4: true"}, {"or", "DONE 3: true"}, {"else", "DONE 2: 7"},
            {"name:1", "DONE 3: 3"}};
        for (String[] op : ops) due("9 B is the top: " + op[0], shown("7 in", "same num:3 " + op[0]), op[1]);
    }

    private static void three() {
        NestedFilters x = new NestedFilters();
        int[][] bad = {{-1, 0}, {2, 0}, {LEAST, 0}, {MOST, 0}, {1, -1}, {1, 3}, {1, LEAST}};
        for (int[] b : bad) due("10 BAD_ARG three(" + b[0] + ", " + b[1] + ")", x.three(b[0], b[1]), BAD_ARG);
        x.leaf(0, 0);
        x.leaf(0, 0);
        due("10 too few", x.three(0, 0), TOO_FEW);
        due("10 too few to fold", x.three(1, 0), TOO_FEW);
        x.leaf(0, 0);
        due("10 if", x.three(0, 0), 1);
        due("10 if, C is the top", shown("7 in", "true num:1 num:2 if"), "DONE 3: 1");
        due("10 if, C is the top", shown("7 in", "false num:1 num:2 if"), "DONE 3: 2");
        due("10 fold", shown("1 2 [2 in", "each num:4 same ?2 + fold:2"), "DONE 13: 7");
    }

    private static void fortyParts() {
        NestedFilters x = new NestedFilters();
        for (int i = 0; i < 3; i++) x.leaf(0, 0);
        for (int i = 3; i < 39; i++) x.one(1, 0);
        due("7 the fortieth part", x.leaf(0, 0), 4);
        due("7 no leaf", x.leaf(0, 0), FULL);
        due("8 no one", x.one(0, 0), FULL);
        due("9 no two", x.two(0, 0), FULL);
        due("10 no three", x.three(0, 0), FULL);
        due("7 BAD_ARG comes first", x.leaf(16, 0), BAD_ARG);
        due("8 BAD_ARG comes first", x.one(2, 10), BAD_ARG);
        due("9 BAD_ARG comes first", x.two(12, 3), BAD_ARG);
        due("10 BAD_ARG comes first", x.three(1, 3), BAD_ARG);
        due("11 all of them", x.scrap(), 4);
        due("7 room again", x.leaf(0, 0), 1);
        for (int i = 1; i < 40; i++) due("8 part " + i, x.one(1, 0), 1);
        due("9 FULL comes before TOO_FEW", x.two(0, 0), FULL);
        due("10 FULL comes before TOO_FEW", x.three(0, 0), FULL);
        due("12 forty parts run", Words.told(x), "DONE 40: null");
    }

    private static void scrap() {
        NestedFilters x = Words.input("7 in 8");
        Words.filter(x, "same same same");
        due("11 three", x.scrap(), 3);
        due("11 none", x.scrap(), 0);
        due("11 none to take", x.one(0, 0), TOO_FEW);
        Words.filter(x, "same");
        due("11 the values stay", Words.told(x), "DONE 1: 7");
        due("11 the stack of values stays", x.value(0, 0), 2);
    }

    private static void runAnswersCounted() {
        NestedFilters x = Words.input("1 2 [2 in");
        due("12 no filter", Words.told(x), "NO_FILTER 0:");
        Words.filter(x, "each");
        due("12 DONE", x.run(), NestedFilters.DONE);
        due("13 two", x.answers(), 2);
        due("14 three", x.counted(), 3);
        Words.filter(x, "fail");
        due("12 two filters", Words.told(x), "NO_FILTER 0:");
        due("15 two filters have no answer", x.items(0), NONE);
        Words.filter(x, "also");
        due("12 FAILED", x.run(), NestedFilters.FAILED);
        due("13 those that came before", x.answers(), 2);
        due("14 with the error", x.counted(), 5);
        x.scrap();
        due("13 scrapped", x.answers(), 0);
        due("14 scrapped", x.counted(), 0);
        due("16 scrapped", x.kind(0, 0), NONE);
        due("17 scrapped", x.number(0, 0), 0);
    }

    private static void items() {
        NestedFilters x = Words.input("5 [0 { 7 null {13 [4 in");
        Words.filter(x, "deep");
        int[] many = {13, 1, 2, 2, 6, 1, 1};
        for (int i = 0; i < many.length; i++) due("15 items(" + i + ")", x.items(i), many[i]);
        due("15 none behind", x.items(7), NONE);
        due("15 none before", x.items(-1), NONE);
        due("15 none at the most", x.items(MOST), NONE);
        due("15 none at the least", x.items(LEAST), NONE);
        // Five rows of 10 items and four or five nulls, within three arrays.
        x = Words.input("1 2 3 4 5 6 7 8 [8 in");
        String rows = "same same also same also same also same also null also null also null also null also";
        Words.filter(x, rows + " all all all");
        due("15 60 items", x.items(0), 60);
        due("16 the last of 60", x.kind(0, 59), 5);
        due("16 one behind the last", x.kind(0, 60), NONE);
        due("17 one of 60", x.number(0, 5), 2);
        x.scrap();
        Words.filter(x, rows + " null also all all all");
        due("15 61 items", x.items(0), LONG);
        due("13 it is an answer all the same", x.answers(), 1);
        due("16 of a long one", x.kind(0, 0), NONE);
        due("17 of a long one", x.number(0, 5), 0);
        due("15 behind a long one", x.items(1), NONE);
    }

    private static void kindAndNumber() {
        NestedFilters x = Words.input("null false true -5 [4 0 {4 [2 in");
        Words.filter(x, "same false also");
        int[] kinds = {4, 4, 0, 1, 2, 3, 5, 6, 7, 3, 8, 5};
        int[] numbers = {0, 0, 0, 0, 0, -5, 0, 0, 4, 0, 0, 0};
        due("15 all of it", x.items(0), kinds.length);
        for (int j = 0; j < kinds.length; j++) {
            due("16 kind(0, " + j + ")", x.kind(0, j), kinds[j]);
            due("17 number(0, " + j + ")", x.number(0, j), numbers[j]);
        }
        int[][] none = {{0, 12}, {0, -1}, {0, LEAST}, {0, MOST}, {1, 1}, {2, 0}, {-1, 0}, {MOST, MOST}};
        for (int[] n : none) {
            due("16 kind(" + n[0] + ", " + n[1] + ")", x.kind(n[0], n[1]), NONE);
            due("17 number(" + n[0] + ", " + n[1] + ")", x.number(n[0], n[1]), 0);
        }
        due("16 the second answer", x.kind(1, 0), 1);
    }

    private static void xIsNotLookedAt() {
        for (int x : new int[] {LEAST, -1, 0, 99, MOST}) {
            NestedFilters f = new NestedFilters();
            for (int kind = 0; kind < 4; kind++) due("18 value", f.value(kind, x), kind + 1);
            for (int op = 0; op < 16; op++) {
                if (op != 5 && op != 6 && op != 13) due("18 leaf " + op, f.leaf(op, x), 1);
                f.scrap();
            }
            f.leaf(0, 0);
            due("18 all", f.one(0, x), 1);
            due("18 try", f.one(1, x), 1);
            due("18 keep", f.one(3, x), 1);
            for (int op = 0; op < 12; op++) {
                f.leaf(0, 0);
                due("18 two " + op, f.two(op, x), 1);
            }
            f.leaf(0, 0);
            f.leaf(0, 0);
            due("18 if", f.three(0, x), 1);
        }
    }

    private static void tellsOfNow() {
        NestedFilters x = Words.input("1 2 [2 5 [1 in");
        Words.filter(x, "each");
        due("18 answers without run", x.answers(), 1);
        x.input();
        due("18 another input", x.answers(), 2);
        due("18 items of another input", x.number(1, 0), 2);
        due("18 and what is counted", x.counted(), 3);
        Words.filter(x, "all");
        due("18 another filter", x.items(0), 4);
        due("18 a refused call changes nothing", x.two(0, 0), TOO_FEW);
        due("18 as before", x.items(0), 4);
        x.value(3, 9);
        due("18 a value is not the input", x.number(0, 1), 1);
        x.forget();
        due("18 each of null", x.run(), NestedFilters.FAILED);
        due("18 no answer then", x.kind(0, 0), NONE);
    }
}
