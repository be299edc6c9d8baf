/** Made-up calls, always the same ones, on NestedFilters and on Model: every answer must agree. */
public final class ModelTest {
    private static final int OBJECTS = 20000;
    private static long state;
    private static int wrong = 0;
    private static final int[] endings = new int[5];
    private static final StringBuilder told = new StringBuilder();

    /** Whether what may end with an error is mostly put behind a try, so that runs go far. */
    private static boolean tame;

    private static int upTo(int bound) {
        state = state * 6364136223846793005L + 1442695040888963407L;
        return (int) ((state >>> 33) % bound);
    }

    private static void agree(String call, int got, int want) {
        told.append(call).append(" = ").append(want).append('\n');
        if (got != want && wrong++ < 5) {
            System.out.println(told + "but the last one answered " + got);
        }
    }

    private static int someX(int most) {
        return switch (upTo(40)) {
            case 0 -> Integer.MAX_VALUE;
            case 1 -> Integer.MIN_VALUE;
            case 2 -> most + 1;
            case 3 -> -1;
            default -> upTo(most + 1);
        };
    }

    private static int someNumber() {
        return switch (upTo(12)) {
            case 0 -> Integer.MIN_VALUE;
            case 1 -> Integer.MAX_VALUE;
            default -> upTo(7) - 3;
        };
    }

    public static void main(String[] args) {
        for (int n = 0; n < OBJECTS; n++) {
            state = n * 7919L + 13;
            told.setLength(0);
            told.append("object ").append(n).append('\n');
            NestedFilters x = new NestedFilters();
            Model m = new Model();
            for (int round = 0; round < 2; round++) {
                if (upTo(4) == 0) {
                    x.forget();
                    m.forget();
                    told.append("forget()\n");
                }
                values(x, m);
                agree("scrap()", x.scrap(), m.scrap());
                filters(x, m);
                look(x, m);
            }
        }
        for (int e = 0; e < endings.length; e++) {
            System.out.println("runs that ended with " + e + ": " + endings[e]);
            if (endings[e] < 100) wrong++;
        }
        System.out.println(wrong == 0 ? "the model agrees" : wrong + " answers differ or endings are rare");
        if (wrong != 0) System.exit(1);
    }

    private static void values(NestedFilters x, Model m) {
        int calls = 10 + upTo(25);
        int stack = 0;
        for (int c = 0; c < calls; c++) {
            int what = upTo(10);
            if (what < 5) {
                int kind = upTo(3) == 0 ? someX(3) : 3;
                int number = someNumber();
                int want = m.value(kind, number);
                agree("value(" + kind + ", " + number + ")", x.value(kind, number), want);
                stack = want >= 0 ? want : stack;
            } else if (what < 8) {
                int n = upTo(3) == 0 ? someX(10) : upTo(4);
                int want = m.array(n);
                agree("array(" + n + ")", x.array(n), want);
                stack = want >= 0 ? want : stack;
            } else {
                int keys = upTo(3) == 0 ? someX(255) : 1 << upTo(8) | 1 << upTo(8);
                int want = m.object(keys);
                agree("object(" + keys + ")", x.object(keys), want);
                stack = want >= 0 ? want : stack;
            }
        }
        if (upTo(5) != 0) agree("array(" + stack + ")", x.array(stack), m.array(stack));
        if (upTo(8) != 0) agree("input()", x.input(), m.input());
    }

    private static void filters(NestedFilters x, Model m) {
        int most = 3 + upTo(38);
        tame = upTo(4) != 0;
        int stack = 0;
        for (int c = 0; c < most + 10; c++) {
            // Towards the end what is on the stack is joined, so that one filter is left mostly.
            boolean join = c >= most - stack;
            int what = join ? 2 : upTo(10);
            if (stack == 0 || !join && what < 5) {
                stack = leaf(x, m);
            } else if (what < 7 && !join) {
                int op = upTo(30) == 0 ? someX(4) : upTo(5);
                int k = op == 2 ? someX(9) : op == 4 ? someX(7) : someNumber();
                agree("one(" + op + ", " + k + ")", x.one(op, k), m.one(op, k));
            } else if (what < 9 && stack > 1 || stack == 2) {
                int[] often = {0, 0, 0, 1, 1, 2, 2, 3, 4, 5, 6, 7, 8, 9, 10, 11, 12, 12};
                int op = upTo(30) == 0 ? someX(12) : tame ? often[upTo(often.length)] : upTo(13);
                int k = op == 12 ? someX(2) : someNumber();
                int want = m.two(op, k);
                agree("two(" + op + ", " + k + ")", x.two(op, k), want);
                if (want >= 0) stack = want;
                if (want >= 0 && op >= 2 && op <= 6) shield(x, m);
            } else if (stack > 2 || upTo(10) == 0) {
                int op = upTo(30) == 0 ? someX(1) : upTo(2);
                int k = op == 1 ? someX(2) : someNumber();
                int want = m.three(op, k);
                agree("three(" + op + ", " + k + ")", x.three(op, k), want);
                if (want >= 0) stack = want;
            } else if (join && stack == 1) {
                return;
            }
        }
    }

    private static int leaf(NestedFilters x, Model m) {
        int[] often = {0, 7, 7, 7, 15, 15, 13, 4, 10};
        int op = upTo(2) == 0 ? often[upTo(often.length)] : upTo(30) == 0 ? someX(15) : upTo(16);
        int k = op == 5 ? someX(7) : op == 6 ? upTo(22) - 11 : op == 13 ? someX(2) : someNumber();
        int want = m.leaf(op, k);
        agree("leaf(" + op + ", " + k + ")", x.leaf(op, k), want);
        if (want >= 0 && (op >= 5 && op <= 11)) shield(x, m);
        return want >= 0 ? want : 1;
    }

    private static void shield(NestedFilters x, Model m) {
        if (tame && upTo(8) != 0) agree("one(1, 0)", x.one(1, 0), m.one(1, 0));
    }

    private static void look(NestedFilters x, Model m) {
        int first = upTo(3);
        if (first == 0) agree("answers()", x.answers(), m.answers());
        if (first == 1) agree("counted()", x.counted(), m.counted());
        int end = m.run();
        endings[end]++;
        agree("run()", x.run(), end);
        int many = m.answers();
        agree("answers()", x.answers(), many);
        agree("counted()", x.counted(), m.counted());
        for (int i = -1; i <= many && i < 6; i++) {
            int items = m.items(i);
            agree("items(" + i + ")", x.items(i), items);
            for (int j = -1; j <= Math.min(items, 8); j++) {
                agree("kind(" + i + ", " + j + ")", x.kind(i, j), m.kind(i, j));
                agree("number(" + i + ", " + j + ")", x.number(i, j), m.number(i, j));
            }
            int j = upTo(64);
            agree("kind(" + i + ", " + j + ")", x.kind(i, j), m.kind(i, j));
            agree("number(" + i + ", " + j + ")", x.number(i, j), m.number(i, j));
        }
    }
}
