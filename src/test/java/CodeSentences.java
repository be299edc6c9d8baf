/** The last of the terms: how far a run goes, refused calls, and the constants. */
final class CodeSentences {
    private static final String TEN = TermSentences.TEN;
    private static final String TEN_ANSWERS = TermSentences.TEN_ANSWERS;
    private static final int[] SOME = {Integer.MIN_VALUE, Integer.MIN_VALUE + 1, -1000000004, -257, -61, -11, -10, -1, 0, 1,
        2, 3, 4, 5, 6, 7, 8, 9, 10, 11, 12, 13, 15, 16, 19, 20, 40, 59, 60, 61, 127, 255, 256, 511, 600, 653, 6530,
        Integer.MAX_VALUE - 1, Integer.MAX_VALUE};

    private CodeSentences() {
    }

    static void tryAll() {
        twenty();
        noCallThrows();
        Sentences.says("A refused call answers the code named and changes nothing.");
        Refused.tryAll();
        codes();
        endings();
    }

    /** A filter that gives so many answers, up to 22, of TEN. */
    static String giving(int many) {
        if (many < 10) return "each first:" + many;
        if (many == 10) return "each";
        if (many < 20) return "each each first:" + (many - 10) + " also";
        return "each each also" + " null also".repeat(many - 20);
    }

    private static void twenty() {
        Sentences.says("A RUN applies the one filter on the stack to the input until it has 20 answers, or it ends.");
        for (int many = 0; many <= 22; many++) {
            NestedFilters x = Words.input(TEN);
            Words.filter(x, giving(many));
            int told = Math.min(many, 20);
            Sentences.due("a run of " + many, x.run(), many < 20 ? NestedFilters.DONE : NestedFilters.MORE);
            Sentences.due("the answers of " + many, x.answers(), told);
            for (int i = 0; i < told; i++) Sentences.due("answer " + i + " of " + many, x.number(i, 0), i % 10);
            for (int i = told; i < 25; i++) Sentences.due("answer " + i + " of " + many, x.items(i), NestedFilters.NONE);
        }
        Sentences.run(TEN, giving(19) + " fail also", "FAILED 25:" + TEN_ANSWERS + " 0 1 2 3 4 5 6 7 8");
        Sentences.run(TEN, giving(20) + " fail also", "MORE 24:" + TEN_ANSWERS + TEN_ANSWERS);
        // The 20th answer is the 600th thing counted, and then the one that is too many.
        String burn = "each each < none then each each none then name:0 also ";
        Sentences.run(TEN, burn + giving(20) + " also" + " try".repeat(20), "MORE 600:" + TEN_ANSWERS + TEN_ANSWERS);
        Sentences.run(TEN, burn + giving(20) + " also" + " try".repeat(21),
            "TIRED 600:" + TEN_ANSWERS + " 0 1 2 3 4 5 6 7 8");
    }

    private static void noCallThrows() {
        Sentences.says("No call ever throws.");
        long state = 17;
        for (int object = 0; object < 300; object++) {
            NestedFilters x = new NestedFilters();
            int number = 0;
            String call = "";
            String thrown = "nothing";
            try {
                for (; number < 512; number++) {
                    state = state * 6364136223846793005L + 1442695040888963407L;
                    int a = some(state >>> 8);
                    int b = some(state >>> 24);
                    int which = (int) ((state >>> 40) % 22);
                    call = which + " with " + a + " and " + b;
                    call(x, which, a, b);
                }
            } catch (RuntimeException | Error e) {
                thrown = e.toString();
            }
            Sentences.due("object " + object + ", call " + number + ", " + call, thrown, "nothing");
        }
    }

    private static int some(long bits) {
        return SOME[(int) ((bits & 0xFFFF) % SOME.length)];
    }

    /** Any call; those that push are made more often, so that the stacks grow. */
    private static int call(NestedFilters x, int which, int a, int b) {
        return switch (which) {
            case 0 -> x.value(a, b);
            case 1, 2, 3, 4 -> x.value(a & 3, b);
            case 5 -> x.array(a);
            case 6 -> x.object(a);
            case 7 -> x.input();
            case 8 -> x.leaf(a, b);
            case 9, 10, 11 -> x.leaf(a & 15, b);
            case 12 -> x.one(a, b);
            case 13 -> x.two(a, b);
            case 14 -> x.three(a, b);
            case 15 -> x.run();
            case 16 -> x.answers();
            case 17 -> x.counted();
            case 18 -> x.items(a);
            case 19 -> x.kind(a & 15, b);
            case 20 -> x.number(a & 15, b);
            default -> seldom(x, a, b);
        };
    }

    private static int seldom(NestedFilters x, int a, int b) {
        if (a < 5) return x.kind(a, b);
        if (a < 100) return x.number(a, b);
        if (b < 5) return x.scrap();
        x.forget();
        return 0;
    }

    private static void codes() {
        Sentences.says("The constants: `BAD_ARG = -1000000001`: An argument is out of its range.");
        Sentences.due("BAD_ARG", NestedFilters.BAD_ARG, -1000000001);
        Sentences.due("value(4, 0)", new NestedFilters().value(4, 0), -1000000001);
        Sentences.says("`FULL = -1000000002`: A limit is reached.");
        Sentences.due("FULL", NestedFilters.FULL, -1000000002);
        Sentences.due("an array around depth 4", Words.input("[0 [1 [1 [1").array(1), -1000000002);
        Sentences.says("`TOO_FEW = -1000000003`: The stack does not hold what is needed.");
        Sentences.due("TOO_FEW", NestedFilters.TOO_FEW, -1000000003);
        Sentences.due("input()", new NestedFilters().input(), -1000000003);
        Sentences.says("`NONE = -1000000004`: There is no such thing.");
        Sentences.due("NONE", NestedFilters.NONE, -1000000004);
        Sentences.due("items(0)", new NestedFilters().items(0), -1000000004);
        Sentences.says("`LONG = -1000000005`: The answer has more than 60 items.");
        Sentences.due("LONG", NestedFilters.LONG, -1000000005);
        NestedFilters x = Words.input(TEN);
        Words.filter(x, "same each ?0 then all name:0");
        Sentences.due("ten times ten", x.items(0), -1000000005);
    }

    private static void endings() {
        Sentences.says("`DONE = 0`, `MORE = 1`, `FAILED = 2`, `TIRED = 3`, `NO_FILTER = 4`: How runs end: at the end of all "
            + "answers, with 20 of them, with an error, by what is counted, and if there is not exactly one filter on the "
            + "stack.");
        Sentences.due("DONE", NestedFilters.DONE, 0);
        Sentences.due("MORE", NestedFilters.MORE, 1);
        Sentences.due("FAILED", NestedFilters.FAILED, 2);
        Sentences.due("TIRED", NestedFilters.TIRED, 3);
        Sentences.due("NO_FILTER", NestedFilters.NO_FILTER, 4);
        String[] filters = {"each", "each each also", "fail", "each each each none name:0 name:0 name:0", "each each"};
        for (int ending = 0; ending < filters.length; ending++) {
            NestedFilters x = Words.input(TEN);
            Words.filter(x, filters[ending]);
            Sentences.due(filters[ending], x.run(), ending);
        }
    }
}
