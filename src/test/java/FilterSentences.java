/** What each filter is said to make of a value, with its edges and its errors. */
final class FilterSentences {
    private static final String TEN = TermSentences.TEN;
    private static final String TEN_ANSWERS = TermSentences.TEN_ANSWERS;
    private static final String TEN_SHOWN = TermSentences.TEN_SHOWN;
    private static final String DEEPEST = "7 [1 [1 [1 [1 in";
    private static final String[] KINDS = {"null", "false", "true", "6", "6 [1", "6 {2"};

    private FilterSentences() {
    }

    static void tryAll() {
        plainLeaves();
        fieldAndIndex();
        eachToKeys();
        kindToDeep();
        all();
        tryAndFirst();
        keepAndMake();
        thenAndAlso();
        plus();
        minus();
        otherSigns();
        andOr();
        elses();
        names();
        ifs();
        folds();
    }

    private static void run(String values, String filter, String want) {
        Sentences.run(values, filter, want);
    }

    /** A filter that must end with an error for each of these values, and counts that it is applied alone. */
    private static void fails(String filter, String... values) {
        for (String v : values) run(v + " in", filter, "FAILED 1:");
    }

    /** The values 0 to n - 1 as an array. */
    private static String array(int n) {
        StringBuilder words = new StringBuilder();
        for (int i = 0; i < n; i++) words.append(i).append(' ');
        return words + "[" + n;
    }

    private static String answers(int n) {
        return TEN_ANSWERS.substring(0, 2 * n);
    }

    private static String shown(int n) {
        return "[" + answers(n).trim().replace(' ', ',') + "]";
    }

    private static void plainLeaves() {
        Sentences.says("same: v.");
        String[] shown = {"null", "false", "true", "6", "[6]", "{2:6}"};
        for (int i = 0; i < KINDS.length; i++) run(KINDS[i] + " in", "same", "DONE 1: " + shown[i]);
        Sentences.says("constant: it.");
        for (String v : KINDS) {
            run(v + " in", "null", "DONE 1: null");
            run(v + " in", "false", "DONE 1: false");
            run(v + " in", "true", "DONE 1: true");
            run(v + " in", "num:-2147483648", "DONE 1: -2147483648");
        }
    }

    private static void fieldAndIndex() {
        Sentences.says("field k: of an object what it has for k, null if it has none;");
        for (int k = 0; k < 8; k++) {
            run("6 {" + k + " in", "field:" + k, "DONE 1: 6");
            run("6 {" + k + " in", "field:" + (k + 1) % 8, "DONE 1: null");
            run("{ in", "field:" + k, "DONE 1: null");
            run("0 1 2 3 4 5 6 7 {01234567 in", "field:" + k, "DONE 1: " + k);
        }
        run("null 5 {34 in", "field:3", "DONE 1: null");
        Sentences.says("null of null; else error.");
        for (int k = 0; k < 8; k++) {
            run("null in", "field:" + k, "DONE 1: null");
            fails("field:" + k, "false", "true", "0", "[0", "6 [1");
        }

        Sentences.says("index n: of an array its place n (from 0; for n < 0 the place n from behind, -1 being the last), "
            + "null if it has none;");
        for (int size = 0; size <= 10; size++) {
            for (int n = -10; n <= 9; n++) {
                int place = n < 0 ? size + n : n;
                String want = place < 0 || place >= size ? "null" : String.valueOf(place);
                run(array(size) + " in", "index:" + n, "DONE 1: " + want);
            }
        }
        // The empty array is made between full ones.
        String emptyBetween = array(10) + " [0 " + array(10) + " [3 in";
        for (int n = -10; n <= 9; n++) run(emptyBetween, "index:1 index:" + n + " then", "DONE 3: null");
        Sentences.says("null of null; else error.");
        for (int n = -10; n <= 9; n++) {
            run("null in", "index:" + n, "DONE 1: null");
            fails("index:" + n, "false", "true", "0", "{", "6 {0");
        }
    }

    private static void eachToKeys() {
        Sentences.says("each: the values of an array or object in order; else error.");
        for (int size = 0; size <= 10; size++) run(array(size) + " in", "each", "DONE " + (1 + size) + ":" + answers(size));
        run("{ in", "each", "DONE 1:");
        run("9 {7 in", "each", "DONE 2: 9");
        run("7 6 5 4 3 2 1 0 {01234567 in", "each", "DONE 9: 7 6 5 4 3 2 1 0");
        fails("each", "null", "false", "true", "0");

        Sentences.says("none: no answer.");
        for (String v : KINDS) run(v + " in", "none", "DONE 1:");
        Sentences.says("fail: error.");
        fails("fail", KINDS);

        Sentences.says("size: the number of values of an array or object, 0 of null, a number's size without sign; else "
            + "error.");
        for (int size = 0; size <= 10; size++) run(array(size) + " in", "size", "DONE 1: " + size);
        run("{ in", "size", "DONE 1: 0");
        run("0 {7 in", "size", "DONE 1: 1");
        run("0 1 2 3 4 5 6 7 {01234567 in", "size", "DONE 1: 8");
        run("null in", "size", "DONE 1: 0");
        for (int n : new int[] {0, 1, 5, 2147483646, 2147483647}) {
            run(n + " in", "size", "DONE 1: " + n);
            run(-n + " in", "size", "DONE 1: " + n);
        }
        fails("size", "false", "true");

        Sentences.says("keys: the array of an object's keys, or of an array's places; else error.");
        for (int size = 0; size <= 10; size++) run(array(size) + " in", "keys", "DONE 1: " + shown(size));
        run("9 9 [2 in", "keys", "DONE 1: [0,1]");
        run("{ in", "keys", "DONE 1: []");
        run("9 {7 in", "keys", "DONE 1: [7]");
        run("9 9 9 9 9 9 9 9 {01234567 in", "keys", "DONE 1: [0,1,2,3,4,5,6,7]");
        fails("keys", "null", "false", "true", "0");
    }

    private static void kindToDeep() {
        Sentences.says("kind: 0 null, 1 false, 2 true, 3 a number, 4 an array, 5 an object.");
        for (int kind = 0; kind < 6; kind++) run(KINDS[kind] + " in", "kind", "DONE 1: " + kind);
        run("0 in", "kind", "DONE 1: 3");
        run("[0 in", "kind", "DONE 1: 4");
        run("{ in", "kind", "DONE 1: 5");

        Sentences.says("name i (0 to 2): the value that it has, null if none.");
        for (int i = 0; i < 3; i++) {
            run("6 in", "?" + i, "DONE 1: null");
            for (int j = 0; j < 3; j++) run("6 in", "same ?" + j + " name:" + i, "DONE 3: " + (i == j ? "6" : "null"));
        }

        Sentences.says("not: true if v is empty, else false.");
        for (int kind = 0; kind < 6; kind++) run(KINDS[kind] + " in", "not", "DONE 1: " + (kind < 2));

        Sentences.says("deep: v, then, if it is an array or object, what deep gives of each of its values, in order.");
        run("null in", "deep", "DONE 2: null");
        run("6 in", "deep", "DONE 2: 6");
        run("[0 in", "deep", "DONE 2: []");
        run("{ in", "deep", "DONE 2: {}");
        run(DEEPEST, "deep", "DONE 6: [[[[7]]]] [[[7]]] [[7]] [7] 7");
        run("[0 [1 [1 [1 in", "deep", "DONE 5: [[[[]]]] [[[]]] [[]] []");
        run("7 {0 {1 {2 {3 in", "deep", "DONE 6: {3:{2:{1:{0:7}}}} {2:{1:{0:7}}} {1:{0:7}} {0:7} 7");
        run("1 [1 [1 2 3 [1 {24 4 [3 in", "deep", "DONE 10: [[[1]],{2:2,4:[3]},4] [[1]] [1] 1 {2:2,4:[3]} 2 [3] 3 4");
    }

    private static void all() {
        Sentences.says("all A: the array of all answers of A of v;");
        for (int size = 0; size <= 10; size++) {
            run(array(size) + " in", "each all", "DONE " + (2 + size) + ": " + shown(size));
        }
        run("null in", "none all", "DONE 2: []");
        run("null in", "none all all all all", "DONE 5: [[[[]]]]");
        Sentences.says("as soon as an answer comes that is the eleventh, or of depth 4, error (no more is wanted then).");
        run(TEN, "each none also all", "DONE 14:" + TEN_SHOWN);
        run(TEN, "each null also all", "FAILED 14:");
        run(TEN, "each null also fail also all", "FAILED 15:");
        run(TEN, "each each also all", "FAILED 15:");
        run(TEN, "each null also all try", "DONE 15:");
        run("7 [1 [1 [1 in", "same all", "DONE 2: [[[[7]]]]");
        run(DEEPEST, "same all", "FAILED 2:");
        run(DEEPEST, "deep all", "FAILED 3:");
        run(DEEPEST, "same null also all", "FAILED 3:");
        run(DEEPEST, "each each also same also null also all", "FAILED 9:");
        run("null in", "none all all all all all", "FAILED 6:");
        run("7 in", "same make:0 make:0 make:0 all", "DONE 8: [{0:{0:{0:7}}}]");
        run("7 in", "same make:0 make:0 make:0 make:0 all", "FAILED 10:");
    }

    private static void tryAndFirst() {
        Sentences.says("try A: the answers of A; if it ends with an error, that is its end, without error.");
        run("7 in", "same try", "DONE 2: 7");
        run("7 in", "none try", "DONE 2:");
        run("7 in", "fail try", "DONE 2:");
        run("7 in", "fail try try", "DONE 3:");
        run("7 in", "same fail also same also try", "DONE 5: 7");
        run("7 in", "fail try same also", "DONE 4: 7");
        run("7 in", "same try fail then", "FAILED 4:");
        run("7 in", "same try fail also", "FAILED 4: 7");

        Sentences.says("first n A: the first n answers of A, no more is wanted then.");
        for (int n = 1; n <= 9; n++) {
            for (int size = 0; size <= 10; size++) {
                int given = Math.min(n, size);
                run(array(size) + " in", "each first:" + n, "DONE " + (2 + given) + ":" + answers(given));
            }
            run(array(n) + " in", "each fail also first:" + n, "DONE " + (n + 3) + ":" + answers(n));
            run(array(n - 1) + " in", "each fail also first:" + n, "FAILED " + (n + 3) + ":" + answers(n - 1));
        }
        run(TEN, "each first:0", "DONE 1:");
    }

    private static void keepAndMake() {
        Sentences.says("keep A: for each answer of A that is not empty, v.");
        run("7 in", "none keep", "DONE 2:");
        run("7 in", "null keep", "DONE 2:");
        run("7 in", "false keep", "DONE 2:");
        run("7 in", "num:0 keep", "DONE 2: 7");
        run("null in", "true keep", "DONE 2: null");
        run("null 1 false 2 [4 in", "each keep size then", "DONE 9: 4 4");

        Sentences.says("make k A: for each answer, the object that has it for k; error if too deep.");
        for (int k = 0; k < 8; k++) run("7 in", "same make:" + k, "DONE 3: {" + k + ":7}");
        run("7 null [2 in", "each make:3", "DONE 6: {3:7} {3:null}");
        run("7 in", "none make:3", "DONE 2:");
        run("7 [1 [1 [1 in", "same make:3", "DONE 3: {3:[[[7]]]}");
        run(DEEPEST, "same make:3", "FAILED 3:");
        run("{ {0 {0 {0 in", "same make:3", "FAILED 3:");
        run(DEEPEST, "index:0 same also make:3", "FAILED 6: {3:[[[7]]]}");
        run(DEEPEST, "same make:3 try null also", "DONE 6: null");
    }

    private static void thenAndAlso() {
        Sentences.says("A then B: for each answer of A the answers of B of it.");
        run("1 2 [2 [0 3 [1 [3 in", "each each then", "DONE 11: 1 2 3");
        run("1 2 [2 5 3 [1 [3 in", "each each then", "FAILED 8: 1 2");
        run("7 in", "none fail then", "DONE 2:");
        run("7 in", "same none then", "DONE 3:");
        Sentences.says("A also B: those of A, then those of B.");
        run("1 2 [2 in", "each size also", "DONE 5: 1 2 2");
        run("1 2 [2 in", "size each also", "DONE 5: 2 1 2");
        run("7 in", "none none also", "DONE 3:");
        run("7 in", "none same also", "DONE 3: 7");
        run("7 in", "same none also", "DONE 3: 7");
        run("7 in", "fail same also", "FAILED 2:");
        run("7 in", "same fail also", "FAILED 3: 7");
    }

    private static String pair(String x, String y) {
        return x + " " + y + " [2 in";
    }

    private static void sign(String x, String sign, String y, String want) {
        run(pair(x, y), "index:0 index:1 " + sign, want == null ? "FAILED 4:" : "DONE 4: " + want);
    }

    /** The sign of each two kinds that nothing is said of must end with an error. */
    private static void errors(String sign, boolean ofNull, int... kinds) {
        for (int x = 0; x < 6; x++) {
            for (int y = 0; y < 6; y++) {
                boolean said = ofNull && (x == 0 || y == 0);
                for (int kind : kinds) said |= x == kind && y == kind;
                if (!said) sign(KINDS[x], sign, KINDS[y], null);
            }
        }
    }

    private static void plus() {
        Sentences.says("A + B, -, *, /, %, <, =: for each answer x of A, for each answer y of B (both of v) what is made "
            + "of x and y:");
        run("1 2 [2 in", "each num:10 num:20 also +", "DONE 14: 11 21 12 22");
        run("1 2 [2 in", "each each -", "DONE 14: 0 -1 1 0");
        run("1 2 [2 in", "each size *", "DONE 8: 2 4");
        run("1 2 [2 in", "none fail +", "DONE 2:");
        run("1 2 [2 in", "each none +", "DONE 6:");
        run("1 2 [2 in", "each each num:1 - /", "FAILED 9:");
        run("1 2 [2 in", "num:6 each num:2 - /", "FAILED 12: -6");
        Sentences.says("+ of null and y is y, of x and null x;");
        String[] shown = {"null", "false", "true", "6", "[6]", "{2:6}"};
        for (int kind = 0; kind < 6; kind++) {
            sign("null", "+", KINDS[kind], shown[kind]);
            sign(KINDS[kind], "+", "null", shown[kind]);
        }
        run(DEEPEST, "null same +", "DONE 4: [[[[7]]]]");
        run(DEEPEST, "same null +", "DONE 4: [[[[7]]]]");
        run(TEN, "null same +", "DONE 4:" + TEN_SHOWN);
        Sentences.says("of numbers the sum;");
        sign("2", "+", "3", "5");
        sign("2147483647", "+", "1", "-2147483648");
        sign("-2147483648", "+", "-2147483648", "0");
        Sentences.says("of arrays one behind the other, error if longer than 10;");
        for (int x = 0; x <= 10; x++) {
            for (int y = 0; y <= 10; y++) joined(x, y);
        }
        run(DEEPEST, "same same +", "DONE 4: [[[[7]]],[[[7]]]]");
        Sentences.says("of objects all that they have, for the same key what y has;");
        sign("{", "+", "{", "{}");
        sign("{", "+", "6 {7", "{7:6}");
        sign("6 {0", "+", "{", "{0:6}");
        sign("1 {4", "+", "2 {4", "{4:2}");
        sign("1 {4", "+", "null {4", "{4:null}");
        sign("1 2 3 {357", "+", "4 5 6 {256", "{2:4,3:1,5:5,6:6,7:3}");
        sign("4 5 6 {256", "+", "1 2 3 {357", "{2:4,3:1,5:2,6:6,7:3}");
        sign("0 2 4 6 {0246", "+", "1 3 5 7 {1357", "{0:0,1:1,2:2,3:3,4:4,5:5,6:6,7:7}");
        run("7 {0 {1 {2 {3 in", "same same +", "DONE 4: {3:{2:{1:{0:7}}}}");
        Sentences.says("else error.");
        errors("+", true, 3, 4, 5);
    }

    /** The first x of TEN and the first y of TEN. */
    private static void joined(int x, int y) {
        String shown = (shown(x) + shown(y)).replace("][", x == 0 || y == 0 ? "" : ",");
        String counted = 2 + countedFor(x) + countedFor(y) + ":";
        String want = x + y > 10 ? "FAILED " + counted : "DONE " + counted + " " + shown;
        run(TEN, firstOfTen(x) + " " + firstOfTen(y) + " +", want);
    }

    private static String firstOfTen(int n) {
        return n == 10 ? "each all" : "each first:" + n + " all";
    }

    private static int countedFor(int n) {
        return n == 0 ? 2 : n == 10 ? 12 : 3 + n;
    }

    private static void minus() {
        Sentences.says("- of numbers the difference;");
        sign("2", "-", "3", "-1");
        sign("-2147483648", "-", "1", "2147483647");
        sign("0", "-", "-2147483648", "-2147483648");
        Sentences.says("of arrays x without the values that are the same as one of y;");
        sign("[0", "-", "[0", "[]");
        sign("[0", "-", "1 [1", "[]");
        sign("1 2 [2", "-", "[0", "[1,2]");
        run(TEN, "same same -", "DONE 4: []");
        run(TEN, "same index:0 all -", "DONE 5: [1,2,3,4,5,6,7,8,9]");
        run(TEN, "same index:9 all -", "DONE 5: [0,1,2,3,4,5,6,7,8]");
        run(TEN, "same num:10 all -", "DONE 5:" + TEN_SHOWN);
        sign("1 2 1 3 1 [5", "-", "1 [1", "[2,3]");
        sign("3 2 1 [3", "-", "9 1 3 [3", "[2]");
        sign("null false true 0 [0 { [6", "-", "false [1", "[null,true,0,[],{}]");
        sign("null false true 0 [0 { [6", "-", "[0 0 [2", "[null,false,true,{}]");
        sign("null false true 0 [0 { [6", "-", "{ null [2", "[false,true,0,[]]");
        sign("1 [1 1 2 [2 1 {3 1 {4 [4", "-", "1 2 [2 1 {3 [2", "[[1],{4:1}]");
        Sentences.says("else error.");
        errors("-", false, 3, 4);
    }

    private static void otherSigns() {
        Sentences.says("*, /, % of numbers (Java's; error if y is 0 for the last two);");
        int[] some = {-2147483648, -2147483647, -7, -2, -1, 0, 1, 2, 7, 2147483647};
        for (int x : some) {
            for (int y : some) {
                sign(x + "", "*", y + "", String.valueOf(x * y));
                sign(x + "", "/", y + "", y == 0 ? null : String.valueOf(x / y));
                sign(x + "", "%", y + "", y == 0 ? null : String.valueOf(x % y));
            }
        }
        Sentences.says("else error.");
        errors("*", false, 3);
        errors("/", false, 3);
        errors("%", false, 3);
        Sentences.says("x < y, x = y by the order of values, true or false.");
        for (int x = 0; x < 6; x++) {
            for (int y = 0; y < 6; y++) {
                sign(KINDS[x], "<", KINDS[y], String.valueOf(x < y));
                sign(KINDS[x], "=", KINDS[y], String.valueOf(x == y));
            }
        }
        sign("-2147483648", "<", "2147483647", "true");
        sign("2147483647", "<", "-2147483648", "false");
    }

    private static void andOr() {
        Sentences.says("A and B: for each answer of A, false if it is empty, else for each answer of B whether that is "
            + "not empty (true or false).");
        run("7 in", "null fail and", "DONE 3: false");
        run("7 in", "false fail and", "DONE 3: false");
        run("7 in", "num:0 null false also num:0 also and", "DONE 10: false false true");
        run("7 in", "true false also true also null true also and", "DONE 17: false true false false true");
        run("7 in", "none fail and", "DONE 2:");
        run("7 in", "true none and", "DONE 3:");
        Sentences.says("A or B: for each answer of A, true if it is not empty, else for each of B the same.");
        run("7 in", "true fail or", "DONE 3: true");
        run("7 in", "num:0 fail or", "DONE 3: true");
        run("7 in", "null null false also num:0 also or", "DONE 10: false false true");
        run("7 in", "false null true also or", "DONE 7: false true");
        run("7 in", "true false also true also null true also or", "DONE 13: true false true true");
        run("7 in", "none fail or", "DONE 2:");
        run("7 in", "null none or", "DONE 3:");
    }

    private static void elses() {
        Sentences.says("A else B: the answers of A that are not empty; an error in A ends them without error; if there "
            + "was none, the answers of B.");
        run("null 1 false 0 [4 in", "each num:8 else", "DONE 6: 1 0");
        run("null false [2 in", "each num:8 num:9 also else", "DONE 7: 8 9");
        run("7 in", "none num:8 else", "DONE 3: 8");
        run("7 in", "fail num:8 else", "DONE 3: 8");
        run("7 in", "null fail also num:8 else", "DONE 5: 8");
        run("7 in", "num:1 fail also num:2 also num:8 else", "DONE 5: 1");
        run("7 in", "num:1 null also num:8 else", "DONE 4: 1");
        run("7 in", "null num:1 also num:8 else", "DONE 4: 1");
        run("7 in", "none null else", "DONE 3: null");
        run("7 in", "none none else", "DONE 3:");
        run("7 in", "none num:8 fail also else", "FAILED 5: 8");
    }

    private static void names() {
        Sentences.says("name i A B: for each answer x of A the answers of B (of v), in which name i has the value x "
            + "(unless a name within gives it another).");
        for (int i = 0; i < 3; i++) {
            String bound = "?" + i;
            run("1 2 [2 in", "each " + bound + " name:" + i, "DONE 6: 1 2");
            run("1 2 [2 in", "each same name:" + i, "DONE 6: [1,2] [1,2]");
            run("7 in", "num:1 num:2 " + bound + " name:" + i + " name:" + i, "DONE 5: 2");
            run("7 in", "num:1 num:2 " + bound + " name:" + i + " " + bound + " also name:" + i, "DONE 7: 2 1");
            // A still sees what is around: the name is for B alone, and ends with it.
            run("7 in", "num:1 " + bound + " " + bound + " name:" + i + " name:" + i, "DONE 5: 1");
            run("7 in", "num:1 " + bound + " name:" + i + " " + bound + " also", "DONE 5: 1 null");
        }
        run("7 in", "num:1 num:2 num:3 ?0 ?1 also ?2 also all name:2 name:1 name:0", "DONE 12: [1,2,3]");
        run("7 in", "none fail name:0", "DONE 2:");
        run("7 in", "same none name:0", "DONE 3:");
    }

    private static void ifs() {
        Sentences.says("if A B C: for each answer of A, if it is not empty the answers of B, else those of C (B and C "
            + "both of v).");
        run("null 1 false 0 [4 in", "each num:1 num:2 if", "DONE 10: 2 1 2 1");
        run("7 8 [2 in", "true each fail if", "DONE 5: 7 8");
        run("7 8 [2 in", "null fail each if", "DONE 5: 7 8");
        run("7 in", "true same fail if", "DONE 3: 7");
        run("7 in", "false fail same if", "DONE 3: 7");
        run("7 in", "none fail fail if", "DONE 2:");
        run("7 in", "true none fail if", "DONE 3:");
        run("7 in", "true null also num:1 fail if", "FAILED 6: 1");
    }

    private static void folds() {
        Sentences.says("fold i A B C: a value s is the last answer of B, null if it has none;");
        run("1 2 [2 in", "none num:5 fail fold:0", "DONE 3: 5");
        run("1 2 [2 in", "none each fail fold:0", "DONE 5: 2");
        run("1 2 [2 in", "none none fail fold:0", "DONE 3: null");
        run("1 2 [2 in", "none num:5 null also fail fold:0", "DONE 5: null");
        Sentences.says("for each answer x of A, s becomes the last answer of C applied to s, in which name i has the "
            + "value x, null if it has none;");
        for (int i = 0; i < 3; i++) {
            run("1 2 3 [3 in", "each num:10 same ?" + i + " - fold:" + i, "DONE 18: 4");
            run("1 2 [2 in", "each num:5 ?" + i + " fold:" + i, "DONE 7: 2");
            run("1 2 [2 in", "each num:5 ?" + (i + 1) % 3 + " fold:" + i, "DONE 7: null");
        }
        run("1 2 [2 in", "each num:5 none fold:0", "DONE 7: null");
        run("1 2 [2 in", "each num:5 num:6 ?0 also fold:0", "DONE 11: 2");
        run("1 2 [2 in", "each num:5 ?0 none also fold:0", "DONE 11: 2");
        run("1 2 [2 in", "each null same ?0 + fold:0", "DONE 13: 3");
        run("1 2 [2 in", "each num:5 none not then fold:0", "DONE 9: null");
        run("1 2 [2 in", "each num:5 not fold:0", "DONE 7: true");
        Sentences.says("the one answer is s at the end.");
        run("1 2 [2 in", "each num:0 same fold:0 num:9 also", "DONE 9: 0 9");
        run("1 2 [2 in", "each num:0 same fold:0 all", "DONE 8: [0]");
    }
}
