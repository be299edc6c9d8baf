/**
 * Filters on nested values. Every value lives in a numbered slot, every application of a filter in
 * a numbered frame; a frame is asked for one answer at a time, so only what is wanted is worked out.
 */
public final class NestedFilters {
    public static final int BAD_ARG = -1000000001;
    public static final int FULL = -1000000002;
    public static final int TOO_FEW = -1000000003;
    public static final int NONE = -1000000004;
    public static final int LONG = -1000000005;
    public static final int DONE = 0;
    public static final int MORE = 1;
    public static final int FAILED = 2;
    public static final int TIRED = 3;
    public static final int NO_FILTER = 4;

    private static final int WIDTH = 10;
    private static final int KEYS = 8;
    private static final int ALL_KEYS = 255;
    private static final int DEEPEST = 4;
    private static final int NAMES = 3;
    private static final int MOST_OWN = 40;
    private static final int MOST_STACKED = 12;
    private static final int MOST_PARTS = 40;
    private static final int MOST_FILTERS = 8;
    private static final int MOST_COUNTED = 600;
    private static final int MOST_ANSWERS = 20;
    private static final int MOST_ITEMS = 60;
    // Far above what 600 counted things, each some 80 steps from the next, can need.
    private static final int MOST_STEPS = 1000000;

    // The kinds stand in the order of values, so that kinds can be compared as numbers.
    private static final int NIL = 0;
    private static final int NO = 1;
    private static final int YES = 2;
    private static final int NUMBER = 3;
    private static final int ARRAY = 4;
    private static final int OBJECT = 5;

    private static final int ITEM_ARRAY = 4;
    private static final int ITEM_ARRAY_END = 5;
    private static final int ITEM_OBJECT = 6;
    private static final int ITEM_KEY = 7;
    private static final int ITEM_OBJECT_END = 8;
    private static final long NO_ITEM = -1L;

    // Slots of values: NIL, NO and YES stand in the slots of their kinds, then the numbers 0 to 9
    // (places, keys and kinds need no slot of their own then), then what the caller made, then what
    // a run makes, which is at most one value for each thing counted.
    private static final int DIGIT_SLOTS = 3;
    private static final int OWN_SLOTS = 13;
    private static final int RUN_SLOTS = 53;
    private static final int SLOTS = 653;
    private static final int SLOT_PLACES = 6530;
    private static final int LEVELS = 5;

    private static final int ROLES = 3;
    private static final int INNER_PARTS = 120;
    private static final int FRAME_NAMES = 1800;

    private static final int SAME = 0;
    private static final int CONST_NIL = 1;
    private static final int CONST_NO = 2;
    private static final int CONST_YES = 3;
    private static final int CONST_NUMBER = 4;
    private static final int FIELD = 5;
    private static final int INDEX = 6;
    private static final int EACH = 7;
    private static final int EMPTY = 8;
    private static final int FAIL = 9;
    private static final int SIZE = 10;
    private static final int KEYS_OF = 11;
    private static final int KIND_OF = 12;
    private static final int NAMED = 13;
    private static final int NOT = 14;
    private static final int DEEP = 15;

    private static final int FIRST_ONE = 16;
    private static final int ALL = 16;
    private static final int TRY = 17;
    private static final int FIRST = 18;
    private static final int KEEP = 19;
    private static final int MAKE = 20;

    private static final int FIRST_TWO = 21;
    private static final int THEN = 21;
    private static final int ALSO = 22;
    private static final int PLUS = 23;
    private static final int MINUS = 24;
    private static final int TIMES = 25;
    private static final int OVER = 26;
    private static final int REST = 27;
    private static final int LESS = 28;
    private static final int EQUAL = 29;
    private static final int AND = 30;
    private static final int OR = 31;
    private static final int ELSE = 32;
    private static final int NAME = 33;

    private static final int FIRST_THREE = 34;
    private static final int IF = 34;
    private static final int FOLD = 35;

    private static final int ROLE_A = 0;
    private static final int ROLE_B = 1;
    private static final int ROLE_C = 2;

    // What the frame at hand is to do next, or what it has just done.
    private static final int ASKED = 0;
    private static final int ANSWERED = 1;
    private static final int ENDED = 2;
    private static final int ERRED = 3;
    private static final int AT_LEAF = 4;
    private static final int ABOUT_TO_MAKE = 5;

    private static final int NOWHERE = -1;
    private static final int GOING = -1;

    private final int[] slotKind = new int[SLOTS];
    // The number of a number, the set of keys of an object.
    private final int[] slotNumber = new int[SLOTS];
    private final int[] slotSize = new int[SLOTS];
    private final int[] slotDepth = new int[SLOTS];
    private final int[] slotItems = new int[SLOTS];
    // How many answers deep has of the value.
    private final int[] slotWithin = new int[SLOTS];
    private final int[] slotPlaces = new int[SLOT_PLACES];

    private final int[] valueStack = new int[MOST_STACKED];
    private int stacked;
    private int ownMade;
    private int inputSlot;

    private final int[] partOp = new int[MOST_PARTS];
    private final int[] partX = new int[MOST_PARTS];
    private final int[] partInner = new int[INNER_PARTS];
    private final int[] filterStack = new int[MOST_FILTERS];
    private int parts;
    private int filters;

    // Each frame was counted when it was made, so a run never needs more of them than it may count.
    private final int[] framePart = new int[MOST_COUNTED];
    private final int[] frameInput = new int[MOST_COUNTED];
    private final int[] frameParent = new int[MOST_COUNTED];
    private final int[] frameRole = new int[MOST_COUNTED];
    private final int[] frameOuter = new int[MOST_COUNTED];
    private final int[] frameActive = new int[MOST_COUNTED];
    private final int[] frameHeld = new int[MOST_COUNTED];
    private final int[] frameGiven = new int[MOST_COUNTED];
    private final int[] frameNames = new int[FRAME_NAMES];
    private int frames;

    private int now;
    private int signal;
    private int answer;

    // Whether the fields of the run below tell of the filter and the input as they are.
    private boolean known;
    private int ending;
    private int countedSoFar;
    private int runMade;
    private final int[] answerSlots = new int[MOST_ANSWERS];
    private int answerCount;

    private final int[] pairLeft = new int[LEVELS];
    private final int[] pairRight = new int[LEVELS];
    private final int[] pairPlace = new int[LEVELS];

    public NestedFilters() {
        for (int kind = NIL; kind <= YES; kind++) {
            setPlain(kind, kind, 0);
        }
        for (int digit = 0; digit < WIDTH; digit++) {
            setPlain(DIGIT_SLOTS + digit, NUMBER, digit);
        }
    }

    public void forget() {
        stacked = 0;
        ownMade = 0;
        inputSlot = NIL;
        known = false;
    }

    public int value(int kind, int x) {
        if (kind < NIL || kind > NUMBER) {
            return BAD_ARG;
        }
        if (ownMade >= MOST_OWN || stacked >= MOST_STACKED) {
            return FULL;
        }
        int slot = kind;
        if (kind == NUMBER) {
            slot = OWN_SLOTS + ownMade;
            setPlain(slot, NUMBER, x);
        }
        return pushOwn(slot);
    }

    public int array(int n) {
        if (n < 0 || n > WIDTH) {
            return BAD_ARG;
        }
        return stackNested(ARRAY, 0, n);
    }

    public int object(int keys) {
        if (keys < 0 || keys > ALL_KEYS) {
            return BAD_ARG;
        }
        int n = keysBelow(keys, KEYS);
        return stackNested(OBJECT, keys, n);
    }

    public int input() {
        if (stacked == 0) {
            return TOO_FEW;
        }
        stacked--;
        inputSlot = valueStack[stacked];
        known = false;
        return stacked;
    }

    public int leaf(int op, int x) {
        if (op < SAME || op > DEEP) {
            return BAD_ARG;
        }
        if (op == FIELD && (x < 0 || x >= KEYS)) {
            return BAD_ARG;
        }
        if (op == INDEX && (x < -WIDTH || x >= WIDTH)) {
            return BAD_ARG;
        }
        if (op == NAMED && (x < 0 || x >= NAMES)) {
            return BAD_ARG;
        }
        if (filters >= MOST_FILTERS) {
            return FULL;
        }
        return pushPart(op, x, 0);
    }

    public int one(int op, int x) {
        if (op < 0 || op > MAKE - FIRST_ONE) {
            return BAD_ARG;
        }
        int part = FIRST_ONE + op;
        if (part == FIRST && (x < 0 || x >= WIDTH)) {
            return BAD_ARG;
        }
        if (part == MAKE && (x < 0 || x >= KEYS)) {
            return BAD_ARG;
        }
        return pushPart(part, x, 1);
    }

    public int two(int op, int x) {
        if (op < 0 || op > NAME - FIRST_TWO) {
            return BAD_ARG;
        }
        int part = FIRST_TWO + op;
        if (part == NAME && (x < 0 || x >= NAMES)) {
            return BAD_ARG;
        }
        return pushPart(part, x, 2);
    }

    public int three(int op, int x) {
        if (op < 0 || op > FOLD - FIRST_THREE) {
            return BAD_ARG;
        }
        int part = FIRST_THREE + op;
        if (part == FOLD && (x < 0 || x >= NAMES)) {
            return BAD_ARG;
        }
        return pushPart(part, x, 3);
    }

    public int scrap() {
        int scrapped = filters;
        filters = 0;
        parts = 0;
        known = false;
        return scrapped;
    }

    public int run() {
        workOut();
        return ending;
    }

    public int answers() {
        workOut();
        return answerCount;
    }

    public int counted() {
        workOut();
        return countedSoFar;
    }

    public int items(int i) {
        workOut();
        if (i < 0 || i >= answerCount) {
            return NONE;
        }
        int many = slotItems[answerSlots[i]];
        return many > MOST_ITEMS ? LONG : many;
    }

    public int kind(int i, int j) {
        workOut();
        long item = itemOf(i, j);
        return item == NO_ITEM ? NONE : (int) (item >> 32);
    }

    public int number(int i, int j) {
        workOut();
        long item = itemOf(i, j);
        return item == NO_ITEM ? 0 : (int) item;
    }

    // ---- values ----

    private void setPlain(int slot, int kind, int number) {
        slotKind[slot] = kind;
        slotNumber[slot] = number;
        slotSize[slot] = 0;
        slotDepth[slot] = 0;
        slotItems[slot] = 1;
        slotWithin[slot] = 1;
    }

    private void setNested(int slot, int kind, int keys) {
        slotKind[slot] = kind;
        slotNumber[slot] = keys;
        slotSize[slot] = 0;
    }

    private void addTo(int slot, int inner) {
        slotPlaces[slot * WIDTH + slotSize[slot]] = inner;
        slotSize[slot]++;
    }

    private int pushOwn(int slot) {
        ownMade++;
        valueStack[stacked] = slot;
        stacked++;
        return stacked;
    }

    private int stackNested(int kind, int keys, int n) {
        if (ownMade >= MOST_OWN) {
            return FULL;
        }
        if (stacked < n) {
            return TOO_FEW;
        }
        int left = stacked - n;
        if (left >= MOST_STACKED) {
            return FULL;
        }
        // The slot is only taken by pushOwn: a value that is too deep leaves it free.
        int slot = OWN_SLOTS + ownMade;
        setNested(slot, kind, keys);
        for (int place = 0; place < n; place++) {
            addTo(slot, valueStack[left + place]);
        }
        measure(slot);
        if (slotDepth[slot] > DEEPEST) {
            return FULL;
        }
        stacked = left;
        return pushOwn(slot);
    }

    private void measure(int slot) {
        int keyItems = slotKind[slot] == OBJECT ? 1 : 0;
        int deepest = 0;
        int many = 2;
        int within = 1;
        for (int place = 0; place < slotSize[slot]; place++) {
            int inner = slotPlaces[slot * WIDTH + place];
            if (slotDepth[inner] > deepest) {
                deepest = slotDepth[inner];
            }
            many += keyItems + slotItems[inner];
            within += slotWithin[inner];
        }
        slotDepth[slot] = deepest + 1;
        slotItems[slot] = many;
        slotWithin[slot] = within;
    }

    private int keysBelow(int keys, int bound) {
        int many = 0;
        for (int key = 0; key < bound; key++) {
            many += (keys >> key) & 1;
        }
        return many;
    }

    private int fieldOf(int slot, int key) {
        if (((slotNumber[slot] >> key) & 1) == 0) {
            return NIL;
        }
        int place = keysBelow(slotNumber[slot], key);
        return slotPlaces[slot * WIDTH + place];
    }

    private boolean isEmpty(int slot) {
        return slotKind[slot] <= NO;
    }

    /** The order of two values but for what is in them: by kind, then by number or by list of keys. */
    private int headOrder(int left, int right) {
        if (slotKind[left] != slotKind[right]) {
            return slotKind[left] < slotKind[right] ? -1 : 1;
        }
        int x = slotNumber[left];
        int y = slotNumber[right];
        if (x == y) {
            return 0;
        }
        if (slotKind[left] == NUMBER) {
            return x < y ? -1 : 1;
        }
        int lowest = (x ^ y) & -(x ^ y);
        boolean leftHasIt = (x & lowest) != 0;
        int other = leftHasIt ? y : x;
        // The list without that key goes on with a greater one, or it ends here and so comes first.
        boolean otherGoesOn = other > lowest;
        return leftHasIt == otherGoesOn ? -1 : 1;
    }

    private int compared(int left, int right) {
        int order = headOrder(left, right);
        int level = 0;
        pairLeft[0] = left;
        pairRight[0] = right;
        pairPlace[0] = 0;
        for (int step = 0; step < MOST_STEPS && order == 0 && level >= 0; step++) {
            int x = pairLeft[level];
            int y = pairRight[level];
            int place = pairPlace[level];
            if (x == y) {
                level--;
            } else if (place >= slotSize[x] || place >= slotSize[y]) {
                order = slotSize[x] - slotSize[y];
                level--;
            } else {
                pairPlace[level]++;
                level++;
                pairLeft[level] = slotPlaces[x * WIDTH + place];
                pairRight[level] = slotPlaces[y * WIDTH + place];
                pairPlace[level] = 0;
                order = headOrder(pairLeft[level], pairRight[level]);
            }
        }
        return order;
    }

    // ---- items of answers ----

    private long itemOf(int i, int j) {
        if (i < 0 || i >= answerCount) {
            return NO_ITEM;
        }
        int slot = answerSlots[i];
        if (slotItems[slot] > MOST_ITEMS || j < 0 || j >= slotItems[slot]) {
            return NO_ITEM;
        }
        int rest = j;
        for (int level = 0; level < DEEPEST && slotKind[slot] > NUMBER; level++) {
            if (rest == 0 || rest == slotItems[slot] - 1) {
                return bracket(slot, rest);
            }
            // Each turn goes past a whole inner value, or into the one that has the item.
            rest--;
            int keyItems = slotKind[slot] == OBJECT ? 1 : 0;
            int place = 0;
            int inner = slotPlaces[slot * WIDTH];
            for (int turn = 1; turn < slotSize[slot] && rest >= keyItems + slotItems[inner]; turn++) {
                rest -= keyItems + slotItems[inner];
                place = turn;
                inner = slotPlaces[slot * WIDTH + turn];
            }
            if (rest < keyItems) {
                int key = keyAt(slotNumber[slot], place);
                return packed(ITEM_KEY, key);
            }
            rest -= keyItems;
            slot = inner;
        }
        return packed(slotKind[slot], slotNumber[slot]);
    }

    private long bracket(int slot, int rest) {
        if (slotKind[slot] == ARRAY) {
            return packed(rest == 0 ? ITEM_ARRAY : ITEM_ARRAY_END, 0);
        }
        return packed(rest == 0 ? ITEM_OBJECT : ITEM_OBJECT_END, 0);
    }

    private static long packed(int kind, int number) {
        return ((long) kind << 32) | (number & 0xFFFFFFFFL);
    }

    private static int keyAt(int keys, int place) {
        int before = 0;
        for (int key = 0; key < KEYS; key++) {
            if (((keys >> key) & 1) == 1) {
                if (before == place) {
                    return key;
                }
                before++;
            }
        }
        return 0;
    }

    // ---- filters ----

    private int pushPart(int op, int x, int taken) {
        if (parts >= MOST_PARTS) {
            return FULL;
        }
        if (filters < taken) {
            return TOO_FEW;
        }
        int left = filters - taken;
        partOp[parts] = op;
        partX[parts] = x;
        for (int role = 0; role < taken; role++) {
            partInner[parts * ROLES + role] = filterStack[left + role];
        }
        filterStack[left] = parts;
        parts++;
        filters = left + 1;
        known = false;
        return filters;
    }

    // ---- the run ----

    private void workOut() {
        if (known) {
            return;
        }
        known = true;
        answerCount = 0;
        countedSoFar = 0;
        runMade = 0;
        frames = 0;
        if (filters != 1) {
            ending = NO_FILTER;
            return;
        }
        ending = GOING;
        now = NOWHERE;
        apply(ROLE_A, inputSlot);
        for (int step = 0; step < MOST_STEPS && ending == GOING; step++) {
            if (signal == ASKED) {
                ask();
            } else if (signal == AT_LEAF) {
                answerLeaf();
            } else if (signal == ABOUT_TO_MAKE) {
                makeCounted();
            } else if (frameParent[now] == NOWHERE) {
                hearWhole();
            } else {
                hearInner();
            }
        }
    }

    private boolean counts() {
        if (countedSoFar >= MOST_COUNTED) {
            ending = TIRED;
            return false;
        }
        countedSoFar++;
        return true;
    }

    private void give(int slot) {
        answer = slot;
        signal = ANSWERED;
    }

    private void giveNumber(int number) {
        int slot = runSlot();
        setPlain(slot, NUMBER, number);
        give(slot);
    }

    private void giveTruth(boolean truth) {
        give(truth ? YES : NO);
    }

    private int runSlot() {
        int slot = RUN_SLOTS + runMade;
        runMade++;
        return slot;
    }

    /** Applies a filter within the one at hand, which gets the names that this one has by then. */
    private void apply(int role, int slot) {
        if (!counts()) {
            return;
        }
        int frame = frames;
        frames++;
        boolean whole = now == NOWHERE;
        framePart[frame] = whole ? filterStack[0] : partInner[framePart[now] * ROLES + role];
        frameInput[frame] = slot;
        frameParent[frame] = now;
        frameRole[frame] = role;
        frameOuter[frame] = NOWHERE;
        frameActive[frame] = NOWHERE;
        frameHeld[frame] = NIL;
        frameGiven[frame] = 0;
        for (int name = 0; name < NAMES; name++) {
            frameNames[frame * NAMES + name] = whole ? NIL : frameNames[now * NAMES + name];
        }
        if (!whole) {
            frameActive[now] = frame;
            if (role == ROLE_A) {
                frameOuter[now] = frame;
            }
        }
        now = frame;
        signal = ASKED;
    }

    private void ask() {
        int op = partOp[framePart[now]];
        if (op == EACH) {
            nextOfEach();
        } else if (op == DEEP) {
            nextOfDeep();
        } else if (isThrough(op)) {
            signal = ENDED;
        } else if (op <= DEEP) {
            frameGiven[now] = 1;
            signal = AT_LEAF;
        } else if (frameActive[now] != NOWHERE) {
            now = frameActive[now];
        } else {
            begin(op);
        }
    }

    private boolean isThrough(int op) {
        if (op == FIRST) {
            return frameGiven[now] >= partX[framePart[now]];
        }
        return (op < FIRST_ONE || op == ALL || op == FOLD) && frameGiven[now] > 0;
    }

    private void begin(int op) {
        if (op == ALL) {
            int slot = runSlot();
            setNested(slot, ARRAY, 0);
            frameHeld[now] = slot;
        }
        apply(op == FOLD ? ROLE_B : ROLE_A, frameInput[now]);
    }

    // ---- leaves ----

    private void nextOfEach() {
        int slot = frameInput[now];
        int place = frameGiven[now];
        if (slotKind[slot] <= NUMBER) {
            signal = ERRED;
        } else if (place >= slotSize[slot]) {
            signal = ENDED;
        } else if (counts()) {
            frameGiven[now]++;
            give(slotPlaces[slot * WIDTH + place]);
        }
    }

    private void nextOfDeep() {
        int slot = frameInput[now];
        int before = frameGiven[now];
        if (before >= slotWithin[slot]) {
            signal = ENDED;
        } else if (counts()) {
            frameGiven[now]++;
            int found = within(slot, before);
            give(found);
        }
    }

    /** The value that deep gives of a value after so many others. */
    private int within(int slot, int before) {
        int found = slot;
        int rest = before;
        for (int level = 0; level < DEEPEST && rest > 0; level++) {
            rest--;
            int start = found * WIDTH;
            int many = slotSize[found];
            found = slotPlaces[start];
            for (int place = 1; place < many && rest >= slotWithin[found]; place++) {
                rest -= slotWithin[found];
                found = slotPlaces[start + place];
            }
        }
        return found;
    }

    private void answerLeaf() {
        int op = partOp[framePart[now]];
        int slot = frameInput[now];
        int x = partX[framePart[now]];
        switch (op) {
            case SAME:
                give(slot);
                break;
            case CONST_NIL:
            case CONST_NO:
            case CONST_YES:
                give(op - CONST_NIL);
                break;
            case CONST_NUMBER:
                giveNumber(x);
                break;
            case FIELD:
                giveField(slot, x);
                break;
            case INDEX:
                giveIndex(slot, x);
                break;
            case EMPTY:
                signal = ENDED;
                break;
            case SIZE:
                giveSize(slot);
                break;
            case KEYS_OF:
                giveKeys(slot);
                break;
            case KIND_OF:
                give(DIGIT_SLOTS + slotKind[slot]);
                break;
            case NAMED:
                give(frameNames[now * NAMES + x]);
                break;
            case NOT:
                boolean empty = isEmpty(slot);
                giveTruth(empty);
                break;
            case FAIL:
            default:
                signal = ERRED;
                break;
        }
    }

    private void giveField(int slot, int key) {
        if (slotKind[slot] == OBJECT) {
            int found = fieldOf(slot, key);
            give(found);
        } else if (slotKind[slot] == NIL) {
            give(NIL);
        } else {
            signal = ERRED;
        }
    }

    private void giveIndex(int slot, int index) {
        if (slotKind[slot] == ARRAY) {
            int place = index < 0 ? slotSize[slot] + index : index;
            boolean has = place >= 0 && place < slotSize[slot];
            give(has ? slotPlaces[slot * WIDTH + place] : NIL);
        } else if (slotKind[slot] == NIL) {
            give(NIL);
        } else {
            signal = ERRED;
        }
    }

    private void giveSize(int slot) {
        int kind = slotKind[slot];
        if (kind == NO || kind == YES) {
            signal = ERRED;
        } else if (kind == NUMBER) {
            int number = slotNumber[slot];
            giveNumber(number < 0 ? -number : number);
        } else {
            giveNumber(slotSize[slot]);
        }
    }

    private void giveKeys(int slot) {
        if (slotKind[slot] <= NUMBER) {
            signal = ERRED;
            return;
        }
        int made = runSlot();
        int many = slotSize[slot];
        setNested(made, ARRAY, 0);
        for (int place = 0; place < many; place++) {
            int key = slotKind[slot] == ARRAY ? place : keyAt(slotNumber[slot], place);
            addTo(made, DIGIT_SLOTS + key);
        }
        measure(made);
        give(made);
    }

    // ---- what comes of the filters within ----

    private void hearWhole() {
        if (signal == ENDED) {
            ending = DONE;
        } else if (signal == ERRED) {
            ending = FAILED;
        } else {
            answerSlots[answerCount] = answer;
            answerCount++;
            if (answerCount == MOST_ANSWERS) {
                ending = MORE;
            }
            signal = ASKED;
        }
    }

    private void hearInner() {
        int role = frameRole[now];
        now = frameParent[now];
        int op = partOp[framePart[now]];
        boolean forgives = role == ROLE_A && (op == TRY || op == ELSE);
        // An error that is not forgiven goes on outwards as it is.
        boolean ended = signal == ENDED || forgives;
        if (signal == ANSWERED && role == ROLE_A) {
            answerOfA(op);
        } else if (signal == ANSWERED) {
            answerBehindA(op);
        } else if (ended && role == ROLE_A) {
            endOfA(op);
        } else if (ended) {
            endBehindA(op, role);
        }
    }

    // Where nothing is set, the answer goes on outwards as the answer of the frame now at hand.
    private void answerOfA(int op) {
        boolean empty = isEmpty(answer);
        switch (op) {
            case ALL:
                collect();
                break;
            case FIRST:
                frameGiven[now]++;
                break;
            case KEEP:
                answer = frameInput[now];
                signal = empty ? ASKED : ANSWERED;
                break;
            case MAKE:
                signal = ABOUT_TO_MAKE;
                break;
            case TRY:
            case ALSO:
                break;
            case THEN:
                apply(ROLE_B, answer);
                break;
            case AND:
            case OR:
                if (empty == (op == AND)) {
                    signal = ABOUT_TO_MAKE;
                } else {
                    apply(ROLE_B, frameInput[now]);
                }
                break;
            case ELSE:
                frameGiven[now] += empty ? 0 : 1;
                signal = empty ? ASKED : ANSWERED;
                break;
            case NAME:
                bindName();
                apply(ROLE_B, frameInput[now]);
                break;
            case IF:
                apply(empty ? ROLE_C : ROLE_B, frameInput[now]);
                break;
            case FOLD:
                int sum = frameHeld[now];
                frameHeld[now] = NIL;
                bindName();
                apply(ROLE_C, sum);
                break;
            default:
                frameHeld[now] = answer;
                apply(ROLE_B, frameInput[now]);
                break;
        }
    }

    private void collect() {
        int slot = frameHeld[now];
        if (slotSize[slot] >= WIDTH || slotDepth[answer] >= DEEPEST) {
            signal = ERRED;
        } else {
            addTo(slot, answer);
            signal = ASKED;
        }
    }

    // Only filters applied later see the name: those applied before have their own copy of all names.
    private void bindName() {
        frameNames[now * NAMES + partX[framePart[now]]] = answer;
    }

    private void answerBehindA(int op) {
        if (op >= PLUS && op <= OR) {
            signal = ABOUT_TO_MAKE;
        } else if (op == FOLD) {
            frameHeld[now] = answer;
            signal = ASKED;
        }
    }

    private void endOfA(int op) {
        boolean needsB = op == ALSO || (op == ELSE && frameGiven[now] == 0);
        if (needsB) {
            apply(ROLE_B, frameInput[now]);
        } else if (op == ALL) {
            frameGiven[now] = 1;
            measure(frameHeld[now]);
            give(frameHeld[now]);
        } else if (op == FOLD) {
            frameGiven[now] = 1;
            give(frameHeld[now]);
        } else {
            signal = ENDED;
        }
    }

    private void endBehindA(int op, int role) {
        if (op == FOLD && role == ROLE_B) {
            apply(ROLE_A, frameInput[now]);
        } else if (op == ALSO || op == ELSE) {
            signal = ENDED;
        } else {
            frameActive[now] = frameOuter[now];
            signal = ASKED;
        }
    }

    // ---- answers that are counted before they are made ----

    private void makeCounted() {
        if (!counts()) {
            return;
        }
        int op = partOp[framePart[now]];
        int left = frameHeld[now];
        int right = answer;
        if (op == MAKE) {
            makeObject(right);
        } else if (op == AND || op == OR) {
            // Whether A alone decided or B was needed: the last answer that came is what counts.
            boolean empty = isEmpty(right);
            giveTruth(!empty);
        } else if (op == LESS || op == EQUAL) {
            int order = compared(left, right);
            giveTruth(op == LESS ? order < 0 : order == 0);
        } else if (op == PLUS) {
            makeSum(left, right);
        } else if (slotKind[left] == NUMBER && slotKind[right] == NUMBER) {
            makeNumber(op, slotNumber[left], slotNumber[right]);
        } else if (op == MINUS && slotKind[left] == ARRAY && slotKind[right] == ARRAY) {
            makeWithout(left, right);
        } else {
            signal = ERRED;
        }
    }

    private void makeObject(int inner) {
        if (slotDepth[inner] >= DEEPEST) {
            signal = ERRED;
            return;
        }
        int slot = runSlot();
        setNested(slot, OBJECT, 1 << partX[framePart[now]]);
        addTo(slot, inner);
        measure(slot);
        give(slot);
    }

    private void makeNumber(int op, int left, int right) {
        if (op == MINUS) {
            giveNumber(left - right);
        } else if (op == TIMES) {
            giveNumber(left * right);
        } else if (right == 0) {
            signal = ERRED;
        } else if (op == OVER) {
            giveNumber(left / right);
        } else {
            giveNumber(left % right);
        }
    }

    private void makeSum(int left, int right) {
        int kind = slotKind[left];
        if (kind == NIL) {
            give(right);
        } else if (slotKind[right] == NIL) {
            give(left);
        } else if (kind != slotKind[right]) {
            signal = ERRED;
        } else if (kind == NUMBER) {
            giveNumber(slotNumber[left] + slotNumber[right]);
        } else if (kind == ARRAY) {
            makeJoined(left, right);
        } else if (kind == OBJECT) {
            makeMerged(left, right);
        } else {
            signal = ERRED;
        }
    }

    private void makeJoined(int left, int right) {
        int manyLeft = slotSize[left];
        int manyRight = slotSize[right];
        if (manyLeft + manyRight > WIDTH) {
            signal = ERRED;
            return;
        }
        int slot = runSlot();
        setNested(slot, ARRAY, 0);
        for (int place = 0; place < manyLeft; place++) {
            addTo(slot, slotPlaces[left * WIDTH + place]);
        }
        for (int place = 0; place < manyRight; place++) {
            addTo(slot, slotPlaces[right * WIDTH + place]);
        }
        measure(slot);
        give(slot);
    }

    private void makeMerged(int left, int right) {
        int slot = runSlot();
        setNested(slot, OBJECT, slotNumber[left] | slotNumber[right]);
        int leftPlace = left * WIDTH;
        int rightPlace = right * WIDTH;
        for (int key = 0; key < KEYS; key++) {
            int inLeft = (slotNumber[left] >> key) & 1;
            int inRight = (slotNumber[right] >> key) & 1;
            if (inRight == 1) {
                addTo(slot, slotPlaces[rightPlace]);
            } else if (inLeft == 1) {
                addTo(slot, slotPlaces[leftPlace]);
            }
            leftPlace += inLeft;
            rightPlace += inRight;
        }
        measure(slot);
        give(slot);
    }

    private void makeWithout(int left, int right) {
        int manyLeft = slotSize[left];
        int manyRight = slotSize[right];
        int slot = runSlot();
        setNested(slot, ARRAY, 0);
        for (int place = 0; place < manyLeft; place++) {
            int inner = slotPlaces[left * WIDTH + place];
            boolean found = false;
            for (int other = 0; other < manyRight && !found; other++) {
                int order = compared(inner, slotPlaces[right * WIDTH + other]);
                found = order == 0;
            }
            if (!found) {
                addTo(slot, inner);
            }
        }
        measure(slot);
        give(slot);
    }
}
