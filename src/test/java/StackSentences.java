import static java.lang.Integer.MAX_VALUE;
import static java.lang.Integer.MIN_VALUE;

/** Promises 1 to 11: what is pushed on the two stacks, taken off them, and refused. */
final class StackSentences {
    private static final int BAD_ARG = NestedFilters.BAD_ARG;
    private static final int FULL = NestedFilters.FULL;
    private static final int TOO_FEW = NestedFilters.TOO_FEW;

    private StackSentences() {
    }

    static void tryAll() {
        newObject();
        forget();
        value();
        array();
        object();
        input();
        leaf();
        one();
        two();
        three();
        scrap();
    }

    private static void due(String what, int got, int want) {
        Sentences.due(what, got, want);
    }

    /** An object with so many values on its stack: 0, 1, 2 and so on. */
    private static NestedFilters holding(int many) {
        NestedFilters x = new NestedFilters();
        for (int i = 0; i < many; i++) x.value(3, i);
        return x;
    }

    /** An object that has made so many values, of which so many are on its stack. */
    private static NestedFilters made(int many, int left) {
        NestedFilters x = new NestedFilters();
        for (int i = 0; i < many - left; i++) {
            x.value(3, i);
            x.input();
        }
        for (int i = 0; i < left; i++) x.value(3, i);
        return x;
    }

    /** An object with so many filters, which have so many parts together. */
    private static NestedFilters with(int filters, int parts) {
        NestedFilters x = new NestedFilters();
        for (int i = 0; i < filters; i++) x.leaf(4, i);
        for (int i = filters; i < parts; i++) x.one(1, 0);
        return x;
    }

    private static String told(NestedFilters x) {
        x.scrap();
        x.input();
        x.leaf(0, 0);
        return Words.told(x);
    }

    private static void newObject() {
        Sentences.says("`NestedFilters()`: Both stacks are empty; the input is null.");
        due("input", new NestedFilters().input(), TOO_FEW);
        due("array(1)", new NestedFilters().array(1), TOO_FEW);
        due("object(1)", new NestedFilters().object(1), TOO_FEW);
        due("one", new NestedFilters().one(0, 0), TOO_FEW);
        due("two", new NestedFilters().two(0, 0), TOO_FEW);
        due("three", new NestedFilters().three(0, 0), TOO_FEW);
        due("scrap", new NestedFilters().scrap(), 0);
        due("value", new NestedFilters().value(0, 0), 1);
        due("leaf", new NestedFilters().leaf(0, 0), 1);
        Sentences.run("1", "same", "DONE 1: null");
        NestedFilters full = made(40, 12);
        full.leaf(7, 0);
        NestedFilters x = new NestedFilters();
        due("the stack of values of another", x.input(), TOO_FEW);
        due("the stack of filters of another", x.leaf(0, 0), 1);
        Sentences.due("the input of another", Words.told(x), "DONE 1: null");
        due("the first one is as it was", full.input(), 11);
        due("its filter too", full.scrap(), 1);
    }

    private static void forget() {
        Sentences.says("`void forget()`: The stack of values is empty, the input null.");
        for (int many : new int[] {0, 1, 11, 12}) {
            NestedFilters x = holding(many);
            x.forget();
            due("input behind forget of " + many, x.input(), TOO_FEW);
            x = holding(many);
            x.forget();
            for (int i = 1; i <= 12; i++) due("value " + i + " behind forget of " + many, x.value(0, 0), i);
            due("one more", x.value(0, 0), FULL);
        }
        NestedFilters x = Words.input("7 in 8 9");
        Words.filter(x, "same num:5");
        x.forget();
        due("the filters stay", x.two(1, 0), 1);
        Sentences.due("the input is null, the filters stay", Words.told(x), "DONE 3: null 5");
        x.forget();
        Sentences.due("forget twice", Words.told(x), "DONE 3: null 5");
        x.value(3, 6);
        x.input();
        Sentences.due("an input behind forget", Words.told(x), "DONE 3: 6 5");
        nothingIsLeft();
    }

    /** Values that are made behind forget know nothing of those that were made before it. */
    private static void nothingIsLeft() {
        String[] before = {"1 2 3 [3 [1 [1 in", "[0 1 2 3 4 5 {024 {7 5 5 [3 in", "0 1 2 3 4 5 6 7 8 9 [10 in",
            "[0 [1 [1 [1 [0 [1 [1 [1 [0 [1 [1 [1 in"};
        String[] behind = {"1 1 1 [3 in", "[0 [0 [0 [3 in", "null 8 1 [1 1 0 [2 [2 in", "1 {3 1 {3 [2 in", "7 7 [2 in"};
        String[] filters = {"deep", "index:0 index:1 =", "index:0 index:1 <", "index:1 index:0 <",
            "index:0 index:0 then", "index:0 index:1 then", "each size then", "same same -", "same all all all"};
        for (String b : before) {
            for (String v : behind) {
                for (String f : filters) {
                    NestedFilters x = Words.input(b);
                    x.forget();
                    Words.values(x, v);
                    Words.filter(x, f);
                    NestedFilters other = Words.input(v);
                    Words.filter(other, f);
                    Sentences.due(f + " of " + v + " where " + b + " was", Words.told(x), Words.told(other));
                }
            }
        }
    }

    private static void value() {
        Sentences.says("`int value(int kind, int x)`: Pushes a value on the stack of values: kind 0 null, 1 false, 2 true, "
            + "3 the number x.");
        String[] shown = {"null", "false", "true"};
        for (int number : new int[] {MIN_VALUE, -1, 0, 1, MAX_VALUE}) {
            for (int kind = 0; kind <= 3; kind++) {
                NestedFilters x = holding(1);
                due("value", x.value(kind, number), 2);
                Sentences.due("value(" + kind + ", " + number + ")", told(x), "DONE 1: " + (kind < 3 ? shown[kind] : number));
            }
        }
        Sentences.says("Tested in this order: kind not 0 to 3 answers BAD_ARG;");
        for (int kind : new int[] {MIN_VALUE, -2, -1, 4, 5, MAX_VALUE}) {
            due("value(" + kind + ")", new NestedFilters().value(kind, 0), BAD_ARG);
            due("value(" + kind + ") on 12", holding(12).value(kind, 0), BAD_ARG);
            due("value(" + kind + ") behind 40", made(40, 0).value(kind, 0), BAD_ARG);
        }
        Sentences.says("40 values were made since the last call of forget, or it holds 12, FULL.");
        for (int kind = 0; kind <= 3; kind++) {
            due("the 12th of kind " + kind, holding(11).value(kind, 0), 12);
            due("the 13th of kind " + kind, holding(12).value(kind, 0), FULL);
            due("the 40th made of kind " + kind, made(39, 0).value(kind, 0), 1);
            due("the 41st made of kind " + kind, made(40, 0).value(kind, 0), FULL);
            due("the 40th made and the 12th", made(39, 11).value(kind, 0), 12);
            due("the 40th made and the 13th", made(39, 12).value(kind, 0), FULL);
            due("the 41st made and the 12th", made(40, 11).value(kind, 0), FULL);
        }
        NestedFilters x = made(40, 3);
        x.forget();
        for (int i = 1; i <= 40; i++) {
            due("value " + i + " since forget", x.value(3, i), 1);
            due("taken off", x.input(), 0);
        }
        due("value 41 since forget", x.value(3, 41), FULL);
        x.forget();
        x = made(20, 3);
        x.forget();
        for (int i = 0; i < 39; i++) {
            x.value(3, i);
            x.input();
        }
        due("39 since forget, 59 in all", x.value(0, 0), 1);
        due("40 since forget, 60 in all", x.value(0, 0), FULL);
        Sentences.says("Otherwise the number on it.");
        x = new NestedFilters();
        for (int i = 1; i <= 12; i++) due("value " + i, x.value(i % 4, i), i);
        x.input();
        due("behind input", x.value(0, 0), 12);
    }

    private static void array() {
        Sentences.says("`int array(int n)`: Takes n values off and pushes the array of them, the top being the last.");
        String ten = "0,1,2,3,4,5,6,7,8,9,10,11";
        for (int n = 0; n <= 10; n++) {
            NestedFilters x = holding(10);
            x.array(n);
            String want = n == 0 ? "[]" : "[" + ten.substring(2 * (10 - n), 19) + "]";
            Sentences.due("array(" + n + ")", told(x), "DONE 1: " + want);
            if (n < 10) Sentences.due("what is below array(" + n + ")", told(x), "DONE 1: " + (9 - n));
            else due("nothing is below array(10)", x.input(), TOO_FEW);
        }
        Sentences.says("Tested in this order: n not 0 to 10 answers BAD_ARG;");
        for (int n : new int[] {MIN_VALUE, -2, -1, 11, 12, 13, MAX_VALUE}) {
            due("array(" + n + ")", new NestedFilters().array(n), BAD_ARG);
            due("array(" + n + ") on 12", holding(12).array(n), BAD_ARG);
            due("array(" + n + ") behind 40", made(40, 12).array(n), BAD_ARG);
        }
        Sentences.says("40 values, FULL;");
        for (int n = 0; n <= 10; n++) {
            due("the 40th made by array(" + n + ")", made(39, 11).array(n), 12 - n);
            due("the 41st made by array(" + n + ")", made(40, 11).array(n), FULL);
            due("the 41st comes before TOO_FEW", made(40, 0).array(n), FULL);
        }
        Sentences.says("fewer, TOO_FEW;");
        for (int n = 1; n <= 10; n++) {
            due("array(" + n + ") of one fewer", holding(n - 1).array(n), TOO_FEW);
            due("array(" + n + ") of none", holding(0).array(n), TOO_FEW);
            due("array(" + n + ") of as many", holding(n).array(n), 1);
        }
        due("TOO_FEW comes before too deep", Words.input("[0 [1 [1 [1").array(2), TOO_FEW);
        Sentences.says("it would hold 13, FULL;");
        due("array(0) on 11", holding(11).array(0), 12);
        due("array(0) on 12", holding(12).array(0), FULL);
        for (int n = 1; n <= 10; n++) due("array(" + n + ") on 12", holding(12).array(n), 13 - n);
        Sentences.says("too deep, FULL.");
        due("around depth 3", Words.input("[0 [1 [1").array(1), 1);
        due("around depth 4", Words.input("[0 [1 [1 [1").array(1), FULL);
        due("around an object of depth 3", Words.input("{ {1 {1").array(1), 1);
        due("around an object of depth 4", Words.input("{ {1 {1 {1").array(1), FULL);
        due("the first of ten is of depth 4", Words.input("[0 [1 [1 [1 1 2 3 4 5 6 7 8 9").array(10), FULL);
        due("it is not among the nine", Words.input("[0 [1 [1 [1 1 2 3 4 5 6 7 8 9").array(9), 2);
        due("the last of ten is of depth 4", Words.input("1 2 3 4 5 6 7 8 9 [0 [1 [1 [1").array(10), FULL);
        due("array(0) above depth 4", Words.input("[0 [1 [1 [1").array(0), 2);
        Sentences.says("Otherwise the number on it.");
        for (int on = 0; on <= 12; on++) {
            for (int n = 0; n <= Math.min(on, 10); n++) {
                if (on - n < 12) due("array(" + n + ") on " + on, holding(on).array(n), on - n + 1);
            }
        }
    }

    /** The set of the first so many keys. */
    private static int keys(int many) {
        return (1 << many) - 1;
    }

    private static void object() {
        Sentences.says("`int object(int keys)`: Takes a value off for each of the keys in a set (the sum of 2 to the power "
            + "of each) and pushes the object that has them, the top for the greatest key.");
        NestedFilters x = holding(10);
        x.object(0b10100110);
        Sentences.due("the keys 1, 2, 5 and 7", told(x), "DONE 1: {1:6,2:7,5:8,7:9}");
        Sentences.due("what is below", told(x), "DONE 1: 5");
        x = holding(10);
        x.object(255);
        Sentences.due("all keys", told(x), "DONE 1: {0:2,1:3,2:4,3:5,4:6,5:7,6:8,7:9}");
        Sentences.due("what is below", told(x), "DONE 1: 1");
        x = holding(10);
        x.object(0);
        Sentences.due("no keys", told(x), "DONE 1: {}");
        Sentences.due("what is below", told(x), "DONE 1: 9");
        for (int k = 0; k < 8; k++) {
            x = holding(3);
            x.object(1 << k);
            Sentences.due("the key " + k, told(x), "DONE 1: {" + k + ":2}");
        }
        Sentences.says("Tested in this order: keys not 0 to 255 answers BAD_ARG;");
        for (int keys : new int[] {MIN_VALUE, -256, -2, -1, 256, 257, 511, 512, MAX_VALUE}) {
            due("object(" + keys + ")", new NestedFilters().object(keys), BAD_ARG);
            due("object(" + keys + ") on 12", holding(12).object(keys), BAD_ARG);
            due("object(" + keys + ") behind 40", made(40, 12).object(keys), BAD_ARG);
        }
        Sentences.says("40 values, FULL;");
        for (int n = 0; n <= 8; n++) {
            due("the 40th made by object of " + n, made(39, 11).object(keys(n)), 12 - n);
            due("the 41st made by object of " + n, made(40, 11).object(keys(n)), FULL);
            due("the 41st comes before TOO_FEW", made(40, 0).object(keys(n)), FULL);
        }
        Sentences.says("TOO_FEW;");
        for (int n = 1; n <= 8; n++) {
            for (int keys : new int[] {keys(n), keys(n) << (8 - n)}) {
                due("object(" + keys + ") of one fewer", holding(n - 1).object(keys), TOO_FEW);
                due("object(" + keys + ") of none", holding(0).object(keys), TOO_FEW);
                due("object(" + keys + ") of as many", holding(n).object(keys), 1);
            }
        }
        due("TOO_FEW comes before too deep", Words.input("[0 [1 [1 [1").object(3), TOO_FEW);
        Sentences.says("it would hold 13, FULL;");
        due("object(0) on 11", holding(11).object(0), 12);
        due("object(0) on 12", holding(12).object(0), FULL);
        for (int n = 1; n <= 8; n++) due("object of " + n + " on 12", holding(12).object(keys(n)), 13 - n);
        Sentences.says("too deep, FULL.");
        due("around depth 3", Words.input("{ {1 {1").object(128), 1);
        due("around depth 4", Words.input("{ {1 {1 {1").object(128), FULL);
        due("around an array of depth 3", Words.input("[0 [1 [1").object(1), 1);
        due("around an array of depth 4", Words.input("[0 [1 [1 [1").object(1), FULL);
        due("the first of eight is of depth 4", Words.input("{ {1 {1 {1 1 2 3 4 5 6 7").object(255), FULL);
        due("it is not among the seven", Words.input("{ {1 {1 {1 1 2 3 4 5 6 7").object(127), 2);
        due("the last of eight is of depth 4", Words.input("1 2 3 4 5 6 7 { {1 {1 {1").object(255), FULL);
        due("object(0) above depth 4", Words.input("{ {1 {1 {1").object(0), 2);
        Sentences.says("Otherwise the number on it.");
        for (int on = 0; on <= 12; on++) {
            for (int n = 0; n <= Math.min(on, 8); n++) {
                if (on - n < 12) due("object of " + n + " on " + on, holding(on).object(keys(n)), on - n + 1);
            }
        }
    }

    private static void input() {
        Sentences.says("`int input()`: The top value becomes the input, and is taken off.");
        NestedFilters x = holding(12);
        x.leaf(0, 0);
        for (int i = 11; i >= 0; i--) {
            x.input();
            Sentences.due("the input " + i, Words.told(x), "DONE 1: " + i);
        }
        Sentences.says("TOO_FEW if there is none.");
        due("none is left", x.input(), TOO_FEW);
        Sentences.due("the input stays", Words.told(x), "DONE 1: 0");
        due("none was there", new NestedFilters().input(), TOO_FEW);
        x.forget();
        due("none behind forget", x.input(), TOO_FEW);
        Sentences.says("Otherwise the number left.");
        for (int on = 1; on <= 12; on++) due("input of " + on, holding(on).input(), on - 1);
    }

    private static void leaf() {
        Sentences.says("`int leaf(int op, int x)`: Pushes a filter, by op, 0: same, 1: null, 2: false, 3: true, 4: the "
            + "number x, 5: field x, 6: index x, 7: each, 8: none, 9: fail, 10: size, 11: keys, 12: kind, 13: name x, "
            + "14: not, 15: deep.");
        String[] ofArray = {"DONE 1: [7]", "DONE 1: null", "DONE 1: false", "DONE 1: true", "DONE 1: 0", "FAILED 1:",
            "DONE 1: 7", "DONE 2: 7", "DONE 1:", "FAILED 1:", "DONE 1: 1", "DONE 1: [0]", "DONE 1: 4", "DONE 1: null",
            "DONE 1: false", "DONE 3: [7] 7"};
        for (int op = 0; op < 16; op++) {
            NestedFilters x = Words.input("7 [1 in");
            due("leaf(" + op + ", 0)", x.leaf(op, 0), 1);
            Sentences.due("leaf(" + op + ", 0) runs", Words.told(x), ofArray[op]);
        }
        Sentences.says("Tested in this order: op not 0 to 15, x for op 5 not 0 to 7, for op 6 not -10 to 9, for op 13 not 0 "
            + "to 2, answers BAD_ARG;");
        for (int op : new int[] {MIN_VALUE, -2, -1, 16, 17, MAX_VALUE}) badLeaf(op, 0);
        for (int k : new int[] {MIN_VALUE, -10, -1, 8, 9, MAX_VALUE}) badLeaf(5, k);
        for (int k : new int[] {MIN_VALUE, -12, -11, 10, 11, MAX_VALUE}) badLeaf(6, k);
        for (int k : new int[] {MIN_VALUE, -2, -1, 3, 4, MAX_VALUE}) badLeaf(13, k);
        for (int k = 0; k <= 7; k++) due("field " + k, new NestedFilters().leaf(5, k), 1);
        for (int n = -10; n <= 9; n++) due("index " + n, new NestedFilters().leaf(6, n), 1);
        for (int i = 0; i <= 2; i++) due("name " + i, new NestedFilters().leaf(13, i), 1);
        Sentences.says("the stack holds 8, or its filters have 40 parts together (a filter has itself and all parts that it "
            + "is made of), FULL.");
        for (int op = 0; op < 16; op++) {
            due("the 8th is " + op, with(7, 7).leaf(op, 0), 8);
            due("the 9th is " + op, with(8, 8).leaf(op, 0), FULL);
            due("the 40th part is " + op, with(1, 39).leaf(op, 0), 2);
            due("the 41st part is " + op, with(1, 40).leaf(op, 0), FULL);
            due("the 8th and the 40th part", with(7, 39).leaf(op, 0), 8);
            due("the 9th and the 40th part", with(8, 39).leaf(op, 0), FULL);
            due("the 8th and the 41st part", with(7, 40).leaf(op, 0), FULL);
        }
        partsOfAllKinds();
        Sentences.says("Otherwise the number on the stack.");
        NestedFilters x = new NestedFilters();
        for (int i = 1; i <= 8; i++) due("leaf " + i, x.leaf(i, 0), i);
        x.two(1, 0);
        due("behind two", x.leaf(0, 0), 8);
        x.three(0, 0);
        due("behind three", x.leaf(0, 0), 7);
    }

    private static void badLeaf(int op, int k) {
        due("leaf(" + op + ", " + k + ")", new NestedFilters().leaf(op, k), BAD_ARG);
        due("leaf(" + op + ", " + k + ") on 8", with(8, 8).leaf(op, k), BAD_ARG);
        due("leaf(" + op + ", " + k + ") behind 40 parts", with(1, 40).leaf(op, k), BAD_ARG);
    }

    /** Leaves and what is made of one, two and three filters are one part more each: ten in a round. */
    private static void partsOfAllKinds() {
        NestedFilters x = new NestedFilters();
        for (int round = 1; round <= 4; round++) {
            for (int i = 0; i < 4; i++) x.leaf(0, 0);
            x.two(0, 0);
            x.three(0, 0);
            for (int i = 0; i < 4; i++) due("round " + round, x.one(1, 0), round);
        }
        due("the 41st part", x.leaf(0, 0), FULL);
        due("scrapped", x.scrap(), 4);
        due("room again", x.leaf(0, 0), 1);
    }

    private static void one() {
        Sentences.says("`int one(int op, int x)`: Takes A off and pushes, by op, 0: all A, 1: try A, 2: first x A, 3: keep "
            + "A, 4: make x A.");
        String[] ofBoth = {"FAILED 6:", "DONE 6: 5 6", "DONE 4: 5", "FAILED 6: [5,6] [5,6]", "FAILED 8: {1:5} {1:6}"};
        for (int op = 0; op < 5; op++) {
            NestedFilters x = Words.input("5 6 [2 in");
            Words.filter(x, "each fail also");
            due("one(" + op + ", 1)", x.one(op, 1), 1);
            Sentences.due("one(" + op + ", 1) runs", Words.told(x), ofBoth[op]);
        }
        NestedFilters x = with(2, 2);
        x.one(0, 0);
        Sentences.due("the top is taken, what is below stays", joined(x), "DONE 4: 0 [1]");
        Sentences.says("Tested in this order: op not 0 to 4, x for op 2 not 0 to 9, for op 4 not 0 to 7, answers BAD_ARG;");
        for (int op : new int[] {MIN_VALUE, -2, -1, 5, 6, 16, MAX_VALUE}) badOne(op, 0);
        for (int n : new int[] {MIN_VALUE, -2, -1, 10, 11, MAX_VALUE}) badOne(2, n);
        for (int k : new int[] {MIN_VALUE, -2, -1, 8, 9, MAX_VALUE}) badOne(4, k);
        for (int n = 0; n <= 9; n++) due("first " + n, with(1, 1).one(2, n), 1);
        for (int k = 0; k <= 7; k++) due("make " + k, with(1, 1).one(4, k), 1);
        Sentences.says("40 parts, FULL;");
        for (int op = 0; op < 5; op++) {
            due("the 40th part is one(" + op + ")", with(1, 39).one(op, 0), 1);
            due("the 41st part is one(" + op + ")", with(1, 40).one(op, 0), FULL);
            due("the 41st part on 8", with(8, 40).one(op, 0), FULL);
            due("8 are no limit for one(" + op + ")", with(8, 8).one(op, 0), 8);
        }
        Sentences.says("TOO_FEW.");
        for (int op = 0; op < 5; op++) due("one(" + op + ") of none", with(0, 0).one(op, 0), TOO_FEW);
        Sentences.says("Otherwise the number on the stack.");
        for (int on = 1; on <= 8; on++) due("one on " + on, with(on, on).one(1, 0), on);
    }

    private static void badOne(int op, int k) {
        due("one(" + op + ", " + k + ")", with(1, 1).one(op, k), BAD_ARG);
        due("one(" + op + ", " + k + ") of none", with(0, 0).one(op, k), BAD_ARG);
        due("one(" + op + ", " + k + ") behind 40 parts", with(1, 40).one(op, k), BAD_ARG);
    }

    /** What the two filters on the stack do, one behind the other. */
    private static String joined(NestedFilters x) {
        x.two(1, 0);
        return Words.told(x);
    }

    private static void two() {
        Sentences.says("`int two(int op, int x)`: Takes A and B off (B the top) and pushes, by op, 0: A then B, 1: A also B, "
            + "2 to 8: +, -, *, /, %, <, =, 9: A and B, 10: A or B, 11: A else B, 12: name x A B.");
        String[] ofSeven = {"DONE 3: 3", "DONE 3: 7 3", "DONE 4: 10", "DONE 4: 4", "DONE 4: 21", "DONE 4: 2", "DONE 4: 1",
            "DONE 4: false", "DONE 4: false", "DONE 4: true", "DONE 3: true", "DONE 2: 7", "DONE 3: 3"};
        for (int op = 0; op < 13; op++) {
            NestedFilters x = Words.input("7 in");
            Words.filter(x, "same num:3");
            due("two(" + op + ", 1)", x.two(op, 1), 1);
            Sentences.due("two(" + op + ", 1) runs", Words.told(x), ofSeven[op]);
        }
        NestedFilters x = with(3, 3);
        x.two(3, 0);
        Sentences.due("two are taken, what is below stays", joined(x), "DONE 6: 0 -1");
        Sentences.says("Tested in this order: op not 0 to 12, x for op 12 not 0 to 2, answers BAD_ARG;");
        for (int op : new int[] {MIN_VALUE, -2, -1, 13, 14, MAX_VALUE}) badTwo(op, 0);
        for (int k : new int[] {MIN_VALUE, -2, -1, 3, 4, MAX_VALUE}) badTwo(12, k);
        for (int k = 0; k <= 2; k++) due("name " + k, with(2, 2).two(12, k), 1);
        Sentences.says("40 parts, FULL;");
        for (int op = 0; op < 13; op++) {
            due("the 40th part is two(" + op + ")", with(2, 39).two(op, 0), 1);
            due("the 41st part is two(" + op + ")", with(2, 40).two(op, 0), FULL);
            due("FULL comes before TOO_FEW", with(1, 40).two(op, 0), FULL);
        }
        Sentences.says("TOO_FEW.");
        for (int op = 0; op < 13; op++) {
            due("two(" + op + ") of none", with(0, 0).two(op, 0), TOO_FEW);
            due("two(" + op + ") of one", with(1, 1).two(op, 0), TOO_FEW);
            due("two(" + op + ") of one with 39 parts", with(1, 39).two(op, 0), TOO_FEW);
        }
        Sentences.says("Otherwise the number on the stack.");
        for (int on = 2; on <= 8; on++) due("two on " + on, with(on, on).two(1, 0), on - 1);
    }

    private static void badTwo(int op, int k) {
        due("two(" + op + ", " + k + ")", with(2, 2).two(op, k), BAD_ARG);
        due("two(" + op + ", " + k + ") of one", with(1, 1).two(op, k), BAD_ARG);
        due("two(" + op + ", " + k + ") behind 40 parts", with(2, 40).two(op, k), BAD_ARG);
    }

    private static void three() {
        Sentences.says("`int three(int op, int x)`: Takes A, B and C off (C the top) and pushes, by op, 0: if A B C, 1: fold "
            + "x A B C.");
        NestedFilters x = Words.input("7 in");
        Words.filter(x, "true num:1 num:2");
        due("three(0, 0)", x.three(0, 0), 1);
        Sentences.due("if", Words.told(x), "DONE 3: 1");
        x = Words.input("7 in");
        Words.filter(x, "false num:1 num:2");
        x.three(0, 0);
        Sentences.due("if not", Words.told(x), "DONE 3: 2");
        x = Words.input("7 in");
        Words.filter(x, "num:1 num:2 same all ?2 all +");
        due("three(1, 2)", x.three(1, 2), 1);
        Sentences.due("fold", Words.told(x), "DONE 9: [2,1]");
        x = with(4, 4);
        x.three(0, 0);
        Sentences.due("three are taken, what is below stays", joined(x), "DONE 5: 0 2");
        Sentences.says("Tested in this order: op not 0 or 1, x for op 1 not 0 to 2, answers BAD_ARG;");
        for (int op : new int[] {MIN_VALUE, -2, -1, 2, 3, MAX_VALUE}) badThree(op, 0);
        for (int k : new int[] {MIN_VALUE, -2, -1, 3, 4, MAX_VALUE}) badThree(1, k);
        for (int k = 0; k <= 2; k++) due("fold " + k, with(3, 3).three(1, k), 1);
        Sentences.says("40 parts, FULL;");
        for (int op = 0; op < 2; op++) {
            due("the 40th part is three(" + op + ")", with(3, 39).three(op, 0), 1);
            due("the 41st part is three(" + op + ")", with(3, 40).three(op, 0), FULL);
            due("FULL comes before TOO_FEW", with(2, 40).three(op, 0), FULL);
        }
        Sentences.says("TOO_FEW.");
        for (int op = 0; op < 2; op++) {
            for (int on = 0; on < 3; on++) due("three(" + op + ") of " + on, with(on, on).three(op, 0), TOO_FEW);
            due("three(" + op + ") of two with 39 parts", with(2, 39).three(op, 0), TOO_FEW);
        }
        Sentences.says("Otherwise the number on the stack.");
        for (int on = 3; on <= 8; on++) due("three on " + on, with(on, on).three(0, 0), on - 2);
    }

    private static void badThree(int op, int k) {
        due("three(" + op + ", " + k + ")", with(3, 3).three(op, k), BAD_ARG);
        due("three(" + op + ", " + k + ") of two", with(2, 2).three(op, k), BAD_ARG);
        due("three(" + op + ", " + k + ") behind 40 parts", with(3, 40).three(op, k), BAD_ARG);
    }

    private static void scrap() {
        Sentences.says("`int scrap()`: Empties the stack of filters.");
        NestedFilters x = with(8, 40);
        x.scrap();
        due("nothing to take", x.one(0, 0), TOO_FEW);
        for (int i = 1; i <= 8; i++) due("leaf " + i, x.leaf(0, 0), i);
        for (int i = 8; i < 40; i++) due("part " + i, x.one(1, 0), 8);
        due("the 41st part since", x.one(1, 0), FULL);
        x = Words.input("7 in 8 9");
        x.leaf(0, 0);
        x.scrap();
        due("the values stay", x.input(), 1);
        x.leaf(0, 0);
        Sentences.due("the input stays", Words.told(x), "DONE 1: 9");
        Sentences.says("Answers how many were on it.");
        for (int on = 0; on <= 8; on++) {
            x = with(on, on);
            due("scrap of " + on, x.scrap(), on);
            due("scrap again", x.scrap(), 0);
        }
        due("one of 40 parts", with(1, 40).scrap(), 1);
    }
}
