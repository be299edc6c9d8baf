/** What each filter makes of its input, in which order, with which errors, and what is counted (promises 12 to 14, 18). */
public final class FiltersTest {
    private static final String NUMBERS = "3 -4 0 9 [4 in";
    private static final String MIXED = "5 7 [2 1 null {12 [2 in";
    private static final String LEAST = "-2147483648 in";
    private static final String TEN = "0 1 2 3 4 5 6 7 8 9 [10 in";
    private static final String DEEPEST = "7 [1 [1 [1 [1 in";

    private static int wrong = 0;
    private static int right = 0;

    private static void due(String values, String filter, String want) {
        NestedFilters x = Words.input(values);
        Words.filter(x, filter);
        String got = Words.told(x);
        if (got.equals(want)) {
            right++;
        } else {
            wrong++;
            System.out.println(filter + " of " + values + ": " + got + ", due is " + want);
        }
    }

    public static void main(String[] args) {
        fields();
        indexes();
        eachAndDeep();
        sizesKeysKinds();
        all();
        tryFirstKeep();
        make();
        thenAlso();
        sums();
        differences();
        products();
        andOr();
        elses();
        names();
        ifs();
        folds();
        endings();
        onlyWhatIsWanted();
        System.out.println(right + " passed, " + wrong + " failed");
        if (wrong != 0) System.exit(1);
    }

    private static void fields() {
        due("5 6 {07 in", "field:0", "DONE 1: 5");
        due("5 6 {07 in", "field:7", "DONE 1: 6");
        due("5 6 {07 in", "field:3", "DONE 1: null");
        due("null in", "field:0", "DONE 1: null");
        due("false in", "field:0", "FAILED 1:");
        due("0 in", "field:0", "FAILED 1:");
        due("0 [1 in", "field:0", "FAILED 1:");
    }

    private static void indexes() {
        due(NUMBERS, "index:0", "DONE 1: 3");
        due(NUMBERS, "index:3", "DONE 1: 9");
        due(NUMBERS, "index:4", "DONE 1: null");
        due(NUMBERS, "index:-1", "DONE 1: 9");
        due(NUMBERS, "index:-4", "DONE 1: 3");
        due(NUMBERS, "index:-5", "DONE 1: null");
        due(NUMBERS, "index:-10", "DONE 1: null");
        due(TEN, "index:-10", "DONE 1: 0");
        due(TEN, "index:9", "DONE 1: 9");
        due("[0 in", "index:0", "DONE 1: null");
        due("[0 in", "index:-1", "DONE 1: null");
        due("null in", "index:2", "DONE 1: null");
        due("5 {0 in", "index:0", "FAILED 1:");
        due("true in", "index:0", "FAILED 1:");
        due("5 in", "index:0", "FAILED 1:");
    }

    private static void eachAndDeep() {
        due(NUMBERS, "each", "DONE 5: 3 -4 0 9");
        due("8 9 {16 in", "each", "DONE 3: 8 9");
        due("[0 in", "each", "DONE 1:");
        due("null in", "each", "FAILED 1:");
        due("7 in", "each", "FAILED 1:");
        due(MIXED, "deep", "DONE 8: [[5,7],{1:1,2:null}] [5,7] 5 7 {1:1,2:null} 1 null");
        due("null in", "deep", "DONE 2: null");
        due("[0 in", "deep", "DONE 2: []");
        due(DEEPEST, "deep", "DONE 6: [[[[7]]]] [[[7]]] [[7]] [7] 7");
        due("1 [1 2 {3 [0 [2 3 [3 in", "deep kind then all", "DONE 19: [4,4,3,4,5,3,4,3]");
        due("1 [1 2 {3 [0 [2 3 [3 in", "deep", "DONE 9: [[1],[{3:2},[]],3] [1] 1 [{3:2},[]] {3:2} 2 [] 3");
    }

    private static void sizesKeysKinds() {
        due(NUMBERS, "size", "DONE 1: 4");
        due("8 9 {16 in", "size", "DONE 1: 2");
        due("null in", "size", "DONE 1: 0");
        due("-7 in", "size", "DONE 1: 7");
        due("7 in", "size", "DONE 1: 7");
        due(LEAST, "size", "DONE 1: -2147483648");
        due("true in", "size", "FAILED 1:");
        due("false in", "size", "FAILED 1:");
        due("8 9 {16 in", "keys", "DONE 1: [1,6]");
        due(TEN, "keys", "DONE 1: [0,1,2,3,4,5,6,7,8,9]");
        due("[0 in", "keys", "DONE 1: []");
        due("{ in", "keys", "DONE 1: []");
        due("null in", "keys", "FAILED 1:");
        due("3 in", "keys", "FAILED 1:");
        due("null false true 6 [0 { [6 in", "each kind then all", "DONE 15: [0,1,2,3,4,5]");
        due("null false true 6 [0 { [6 in", "each not then all", "DONE 15: [true,true,false,false,false,false]");
        due("0 in", "not", "DONE 1: false");
    }

    private static void all() {
        due("null in", "none all", "DONE 2: []");
        due(TEN, "each all", "DONE 12: [0,1,2,3,4,5,6,7,8,9]");
        due(TEN, "each null also all", "FAILED 14:");
        due("7 [1 [1 [1 in", "same all", "DONE 2: [[[[7]]]]");
        due(DEEPEST, "same all", "FAILED 2:");
        due("1 in", "same fail also all", "FAILED 4:");
        // No more is wanted once the answer that is too many, or too deep, has come.
        due(TEN, "each each also all", "FAILED 15:");
        due(DEEPEST, "deep all", "FAILED 3:");
    }

    private static void tryFirstKeep() {
        due(NUMBERS, "num:36 each / try", "DONE 10: 12 -9");
        due("1 in", "fail try num:2 also", "DONE 4: 2");
        // An error behind it is not the error of what it is made of.
        due("1 in", "same try fail then", "FAILED 4:");
        due("1 in", "same fail then try same also", "DONE 6: 1");
        due(NUMBERS, "each first:2", "DONE 4: 3 -4");
        due(NUMBERS, "each first:9", "DONE 6: 3 -4 0 9");
        due(NUMBERS, "each first:0", "DONE 1:");
        due("1 in", "fail first:0", "DONE 1:");
        due("1 in", "same fail also first:1", "DONE 3: 1");
        due("1 in", "same fail also first:2", "FAILED 4: 1");
        due(NUMBERS, "each same num:1 < then keep", "DONE 23: [3,-4,0,9] [3,-4,0,9]");
        due("null false true 0 [0 { [6 in", "each keep size then all", "DONE 14: [6,6,6,6]");
        due("1 in", "fail keep", "FAILED 2:");
    }

    private static void make() {
        due("4 5 [2 in", "each make:6", "DONE 6: {6:4} {6:5}");
        due("null in", "same make:0", "DONE 3: {0:null}");
        due("7 [1 [1 [1 in", "same make:0", "DONE 3: {0:[[[7]]]}");
        due(DEEPEST, "same make:0", "FAILED 3:");
        due("1 in", "none make:0", "DONE 2:");
        due("1 in", "fail make:0", "FAILED 2:");
    }

    private static void thenAlso() {
        due("1 2 [2 3 [1 [2 in", "each each then", "DONE 9: 1 2 3");
        due("1 2 [2 in", "none each then", "DONE 2:");
        due("1 2 [2 in", "each none then", "DONE 6:");
        due("1 2 [2 3 [2 in", "each each then", "FAILED 8: 1 2");
        due("1 2 [2 in", "each each also", "DONE 7: 1 2 1 2");
        due("1 2 [2 in", "fail each also", "FAILED 2:");
        due("1 2 [2 in", "each fail also", "FAILED 5: 1 2");
    }

    private static void sums() {
        due("2 in", "null same +", "DONE 4: 2");
        due("2 in", "same null +", "DONE 4: 2");
        due("2 in", "null null +", "DONE 4: null");
        due("false in", "null same +", "DONE 4: false");
        due("true in", "same null +", "DONE 4: true");
        due("true in", "same same +", "FAILED 4:");
        due("false in", "same same +", "FAILED 4:");
        due("2147483647 in", "same num:1 +", "DONE 4: -2147483648");
        due("1 [1 in", "same num:1 +", "FAILED 4:");
        due("1 [1 in", "same same make:0 +", "FAILED 6:");
        due("1 2 3 4 5 [5 in", "same same +", "DONE 4: [1,2,3,4,5,1,2,3,4,5]");
        due("1 2 3 4 5 6 [6 in", "same same +", "FAILED 4:");
        due("[0 in", "same same +", "DONE 4: []");
        due(TEN, "same none all +", "DONE 5: [0,1,2,3,4,5,6,7,8,9]");
        due("1 2 {04 3 4 {47 [2 in", "index:0 index:1 +", "DONE 4: {0:1,4:3,7:4}");
        due("1 2 {04 3 4 {47 [2 in", "index:1 index:0 +", "DONE 4: {0:1,4:2,7:4}");
        due("1 2 [2 in", "each each num:10 * +", "DONE 24: 11 21 12 22");
        due("1 2 [2 in", "each each +", "DONE 14: 2 3 3 4");
        due("1 2 [2 in", "fail each +", "FAILED 2:");
        due("1 2 [2 in", "each fail +", "FAILED 4:");
        due("1 2 [2 in", "each none +", "DONE 6:");
    }

    private static void differences() {
        due("5 7 [2 in", "index:0 index:1 -", "DONE 4: -2");
        due(LEAST, "same num:1 -", "DONE 4: 2147483647");
        due("null in", "same same -", "FAILED 4:");
        due("5 in", "same null -", "FAILED 4:");
        due("5 {0 in", "same same -", "FAILED 4:");
        due("1 2 1 [1 3 2 [5 in", "same num:2 all -", "DONE 5: [1,[1],3]");
        due("1 2 3 4 [4 in", "same num:9 num:3 also num:1 also all -", "DONE 9: [2,4]");
        due("[0 in", "same same -", "DONE 4: []");
        due("1 2 [2 1 2 [2 1 {3 1 {3 4 [5 in", "same index:0 all -", "DONE 5: [{3:1},{3:1},4]");
        due("1 2 [2 1 2 [2 1 {3 1 {3 4 [5 in", "same index:2 all -", "DONE 5: [[1,2],[1,2],4]");
        due("null false [2 in", "same false all -", "DONE 5: [null]");
    }

    private static void products() {
        due("65536 in", "same same *", "DONE 4: 0");
        due("-7 2 [2 in", "index:0 index:1 *", "DONE 4: -14");
        due("-7 2 [2 in", "index:0 index:1 /", "DONE 4: -3");
        due("-7 2 [2 in", "index:0 index:1 %", "DONE 4: -1");
        due("7 -2 [2 in", "index:0 index:1 %", "DONE 4: 1");
        due(LEAST, "same num:-1 /", "DONE 4: -2147483648");
        due(LEAST, "same num:-1 %", "DONE 4: 0");
        due("7 in", "same num:0 /", "FAILED 4:");
        due("7 in", "same num:0 %", "FAILED 4:");
        due("7 in", "same num:0 *", "DONE 4: 0");
        due("7 in", "same null *", "FAILED 4:");
        due("7 [1 in", "same same *", "FAILED 4:");
        due("7 [1 in", "same same /", "FAILED 4:");
        due("7 [1 in", "same same %", "FAILED 4:");
    }

    private static void andOr() {
        due("1 in", "false true also null num:5 also and", "DONE 10: false false true");
        due("1 in", "false true also null num:5 also or", "DONE 10: false true true");
        due("1 in", "null fail and", "DONE 3: false");
        due("1 in", "num:0 fail or", "DONE 3: true");
        due("1 in", "num:0 fail and", "FAILED 3:");
        due("1 in", "null fail or", "FAILED 3:");
        due("1 in", "fail true or", "FAILED 2:");
        due("1 in", "none true and", "DONE 2:");
        due("1 in", "true none and", "DONE 3:");
        due("1 in", "false none or", "DONE 3:");
        due("1 in", "true same and", "DONE 4: true");
        due("false in", "null same or", "DONE 4: false");
    }

    private static void elses() {
        due("null 1 false 2 [4 in", "each num:8 else", "DONE 6: 1 2");
        due("null false [2 in", "each num:8 else", "DONE 5: 8");
        due("1 in", "none num:8 num:9 also else", "DONE 5: 8 9");
        due("1 in", "fail num:8 else", "DONE 3: 8");
        due("1 in", "same fail also num:8 else", "DONE 4: 1");
        due("1 in", "null fail also num:8 else", "DONE 5: 8");
        due("1 in", "fail fail else", "FAILED 3:");
        due("1 in", "fail null else", "DONE 3: null");
        due("1 in", "fail num:8 fail also else", "FAILED 5: 8");
    }

    private static void names() {
        due("1 2 [2 in", "each ?0 num:10 * name:0", "DONE 12: 10 20");
        due("1 2 [2 in", "each same name:0", "DONE 6: [1,2] [1,2]");
        due("1 2 [2 in", "each ?1 name:0", "DONE 6: null null");
        due("5 in", "same num:6 ?0 name:0 name:0", "DONE 5: 6");
        due("5 in", "same num:6 ?0 name:0 ?0 also name:0", "DONE 7: 6 5");
        due("5 in", "num:1 num:2 num:3 ?0 ?1 also ?2 also all name:2 name:1 name:0", "DONE 12: [1,2,3]");
        due("5 in", "same ?0 name:0 ?0 also", "DONE 5: 5 null");
        due("5 in", "num:1 ?0 num:2 + ?0 name:0 name:0", "DONE 8: 3");
        due("1 2 [2 in", "each each ?0 ?1 - name:1 name:0", "DONE 28: 0 -1 1 0");
        due("5 in", "same fail name:0", "FAILED 3:");
        due("5 in", "fail same name:0", "FAILED 2:");
    }

    private static void ifs() {
        due("null 1 false [0 [4 in", "each num:1 num:2 if", "DONE 10: 2 1 2 1");
        due("7 8 [2 in", "true each num:2 if", "DONE 5: 7 8");
        due("7 8 [2 in", "null num:2 each if", "DONE 5: 7 8");
        due("7 in", "true same fail if", "DONE 3: 7");
        due("7 in", "false same fail if", "FAILED 3:");
        due("7 in", "none same same if", "DONE 2:");
        due("7 in", "fail same same if", "FAILED 2:");
    }

    private static void folds() {
        due(NUMBERS, "each num:0 same ?2 + fold:2", "DONE 23: 8");
        due("1 2 [2 in", "none num:1 num:2 also num:9 fold:0", "DONE 5: 2");
        due("1 2 [2 in", "none none num:9 fold:0", "DONE 3: null");
        due("1 2 [2 in", "each num:5 none fold:0", "DONE 7: null");
        due("1 2 [2 in", "each num:5 num:6 ?0 also fold:0", "DONE 11: 2");
        due("1 2 [2 in", "none same num:9 fold:0", "DONE 3: [1,2]");
        due("1 2 [2 in", "each fail same fold:0", "FAILED 2:");
        due("1 2 [2 in", "fail same same fold:0", "FAILED 3:");
        due("1 2 [2 in", "each same fail fold:0", "FAILED 5:");
        // The name is there for C alone: A and B see the one around the fold.
        due("5 in", "num:7 ?0 ?0 same ?0 + fold:0 name:0", "DONE 9: 14");
        due("5 in", "num:7 num:1 ?0 also none ?0 fold:0 name:0", "DONE 9: 7");
        due("5 in", "same same ?1 fold:1 ?1 also", "DONE 6: 5 null");
        due("1 2 3 [3 in", "each none all same ?0 all + fold:0", "DONE 22: [1,2,3]");
    }

    /** Counts 580 on TEN without an answer, and then applies the filter that is told behind it. */
    private static final String BURN =
        "each each < none then each each none then name:0 also each none then also";

    private static void tired(String last, int more, String want) {
        due(TEN, BURN + " " + last + " also" + " try".repeat(more), want);
    }

    private static void endings() {
        String ten = " 0 1 2 3 4 5 6 7 8 9";
        due(TEN, "each each also", "MORE 23:" + ten + ten);
        due(TEN, "each each also fail also", "MORE 24:" + ten + ten);
        due(TEN, "each each first:9 also", "DONE 23:" + ten + " 0 1 2 3 4 5 6 7 8");
        due(TEN, "each each first:9 also fail also", "FAILED 25:" + ten + " 0 1 2 3 4 5 6 7 8");
        due(TEN, "each each first:9 also true also", "MORE 25:" + ten + " 0 1 2 3 4 5 6 7 8 true");
        due("1 in", "fail", "FAILED 1:");
        due("1 in", "none", "DONE 1:");
        tired("none", 0, "DONE 581:");
        tired("each", 9, "DONE 600:" + ten);
        tired("each", 10, "TIRED 600: 0 1 2 3 4 5 6 7 8");
        tired("each", 19, "TIRED 600:");
        tired("same", 19, "DONE 600: [0,1,2,3,4,5,6,7,8,9]");
        tired("same", 20, "TIRED 600:");
        tired("deep", 18, "TIRED 600: [0,1,2,3,4,5,6,7,8,9]");
        tired("deep", 19, "TIRED 600:");
        tired("same make:0", 17, "DONE 600: {0:[0,1,2,3,4,5,6,7,8,9]}");
        tired("same make:0", 18, "TIRED 600:");
        tired("same same =", 16, "DONE 600: true");
        tired("same same =", 17, "TIRED 600:");
        // Counted before it is seen to be an error.
        due(TEN, BURN + " same same + also" + " all".repeat(16), "FAILED 600:");
        due(TEN, BURN + " same same + also" + " all".repeat(17), "TIRED 600:");
        tired("null fail and", 17, "DONE 600: false");
        tired("null fail and", 18, "TIRED 600:");
        tired("true fail or", 17, "DONE 600: true");
        tired("true fail or", 18, "TIRED 600:");
        tired("true same and", 16, "DONE 600: true");
        tired("true same and", 17, "TIRED 600:");
        due(TEN, BURN + " same also num:1 else num:1 else" + " try".repeat(18), "TIRED 600:");
    }

    private static void onlyWhatIsWanted() {
        due(NUMBERS, "each each + first:1", "DONE 7: 6");
        due(NUMBERS, "each each + first:2", "DONE 9: 6 -1");
        due(NUMBERS, "each first:1 fail also first:1", "DONE 5: 3");
        due(NUMBERS, "deep first:2", "DONE 4: [3,-4,0,9] 3");
        due(NUMBERS, "each each < first:3 all", "DONE 12: [false,false,false]");
        due(NUMBERS, "each true fail if first:2", "DONE 7: true true");
        due(NUMBERS, "each make:1 first:1", "DONE 5: {1:3}");
    }
}
