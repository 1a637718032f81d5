/**
 * A patch bay: numbered values of eleven forms, acts on them, and patches of acts that are played
 * one behind the other. README.md tells how it is used.
 */
public final class LoomPanel {
    public static final int NONE = -1, ITSELF = -2, BAD = -3, ROOM = -4;

    /** The forms; each is a view too, and PLUG is a view alone. */
    private static final int BYTES = 0, INTS = 1, LONGS = 2, GRID = 3, WIRE = 4, LIVE = 5,
            CABLE = 6, LIVE_CABLE = 7, PLUGS = 8, LOOM = 9, LIVE_LOOM = 10, PLUG = 11;

    private static final int SUM = 0, WIDEN = 1, NARROW = 2, TAP = 3, LAY = 4, LEVELS = 5,
            DRIVE = 6, PAIR = 7, POWER = 8, JOIN = 9, COPY = 10, NEW = 11, CHECK = 12;

    private static final int CAST = 1, NULL = 2, INDEX = 3, STORE = 4, SIZE = 5, FULL = 6;

    /** An act answers a fault as this less the fault, so all faults lie below it. */
    private static final int FAULT_BASE = -10;

    private static final int MOST_VALUES = 60, MOST_PLACES = 8, ALL_PATCHES = 6, MOST_STEPS = 12;

    private final Values values;
    private final Patches patches;
    private int stoppedAt;
    private int faultsSoFar;
    private int latestFault;

    public LoomPanel() {
        values = new Values();
        patches = new Patches();
        stoppedAt = NONE;
        faultsSoFar = 0;
        latestFault = 0;
    }

    public int row(int form, int n) {
        if (form < BYTES || form > LONGS || !isLength(n)) {
            return BAD;
        }
        return values.add(form, n);
    }

    public int board(int form, int n) {
        if (!isBoardForm(form) || !isLength(n)) {
            return BAD;
        }
        return values.add(form, n);
    }

    public int wire(boolean live, int level) {
        return values.addWire(live ? LIVE : WIRE, level);
    }

    public int set(int x, int i, long v) {
        if (!values.isNumbers(x) || !values.hasPlace(x, i)) {
            return BAD;
        }
        values.put(x, i, v);
        return 1;
    }

    public long number(int x, int i) {
        if (values.isA(x, WIRE)) {
            return values.levelOf(x);
        }
        return values.isNumbers(x) ? values.cellOf(x, i) : 0;
    }

    public int act(int act, int x, int y, int n) {
        if (!isAct(act) || !isValueOrNone(x) || !isValueOrNone(y)) {
            return BAD;
        }
        return noted(answerOf(act, x, y, n));
    }

    public int step(int patch, int act, int y, int n) {
        boolean knownY = y == ITSELF || isValueOrNone(y);
        if (!patches.has(patch) || !isAct(act) || !knownY) {
            return BAD;
        }
        return patches.append(patch, act, y, n);
    }

    public int play(int patch, int x) {
        if (!patches.has(patch) || !isValueOrNone(x)) {
            return BAD;
        }
        stoppedAt = NONE;
        int carried = x;
        int steps = patches.lengthOf(patch);
        for (int k = 0; k < steps; k++) {
            int act = patches.actOf(patch, k);
            int y = patches.yOf(patch, k);
            carried = noted(answerOf(act, carried, y == ITSELF ? x : y, patches.nOf(patch, k)));
            if (isFault(carried)) {
                stoppedAt = k;
                return carried;
            }
        }
        return carried;
    }

    public int stopped() {
        return stoppedAt;
    }

    public int empty(int patch) {
        return patches.has(patch) ? patches.drop(patch) : BAD;
    }

    public int is(int x, int view) {
        if (!values.has(x) || !isView(view)) {
            return BAD;
        }
        return values.isA(x, view) ? 1 : 0;
    }

    public int views(int x) {
        return values.has(x) ? viewsOfForm(values.formOf(x)) : BAD;
    }

    public int size(int x) {
        return values.has(x) ? values.lengthOf(x) : BAD;
    }

    public int count(int what) {
        switch (what) {
            case 0:
                return values.made();
            case 1:
                return faultsSoFar;
            case 2:
                return latestFault;
            default:
                return BAD;
        }
    }

    public int clear() {
        // A step's y may name a value, so no step may outlive the values.
        patches.dropAll();
        return values.forgetAll();
    }

    private static boolean isLength(int n) {
        return n >= 0 && n <= MOST_PLACES;
    }

    private static boolean isAct(int act) {
        return act >= SUM && act <= CHECK;
    }

    private static boolean isView(int view) {
        return view >= BYTES && view <= PLUG;
    }

    private static boolean isBoardForm(int form) {
        return form == GRID || form >= CABLE && form <= LIVE_LOOM;
    }

    private boolean isValueOrNone(int x) {
        return x == NONE || values.has(x);
    }

    private static int viewsOfForm(int form) {
        switch (form) {
            case LIVE:
                return 1 << LIVE | 1 << WIRE | 1 << PLUG;
            case LIVE_CABLE:
                return 1 << LIVE_CABLE | 1 << CABLE | 1 << PLUGS;
            case LIVE_LOOM:
                return 1 << LIVE_LOOM | 1 << LOOM;
            default:
                return 1 << form;
        }
    }

    /** The view that a value must be to stand in a place of a board of this form. */
    private static int takenBy(int form) {
        switch (form) {
            case GRID:
                return INTS;
            case LIVE_CABLE:
                return LIVE;
            case PLUGS:
                return PLUG;
            case LOOM:
                return CABLE;
            case LIVE_LOOM:
                return LIVE_CABLE;
            default:
                return WIRE;
        }
    }

    private static int fault(int which) {
        return FAULT_BASE - which;
    }

    private static boolean isFault(int answer) {
        return answer < FAULT_BASE;
    }

    private int noted(int answer) {
        if (isFault(answer)) {
            faultsSoFar++;
            latestFault = FAULT_BASE - answer;
        }
        return answer;
    }

    /** How many values the act needs room for, whether or not it has a fault of its own. */
    private int makes(int act, int x) {
        switch (act) {
            case TAP:
            case LAY:
            case CHECK:
                return 0;
            case DRIVE:
                return values.isA(x, INTS) ? 1 + values.lengthOf(x) : 1;
            default:
                return 1;
        }
    }

    private int answerOf(int act, int x, int y, int n) {
        // FULL goes ahead of an act's own faults, so room is looked at before the act is.
        if (values.made() + makes(act, x) > MOST_VALUES) {
            return fault(FULL);
        }
        switch (act) {
            case SUM:
                return sum(x);
            case WIDEN:
                return widen(x);
            case NARROW:
                return narrow(x);
            case TAP:
                return tap(x, n);
            case LAY:
                return lay(x, y, n);
            case LEVELS:
                return levels(x);
            case DRIVE:
                return drive(x, n != 0);
            case PAIR:
                return pair(x, y, n != 0);
            case POWER:
                return power(x);
            case JOIN:
                return join(x, y);
            case COPY:
                return copy(x);
            case NEW:
                return makeCable(n);
            default:
                return check(x, n);
        }
    }

    private int sum(int x) {
        if (x == NONE) {
            return fault(NULL);
        }
        if (values.isNumbers(x)) {
            return values.addSingle(LONGS, totalOf(x));
        }
        if (!values.isA(x, GRID)) {
            return fault(CAST);
        }
        int length = values.lengthOf(x);
        int sums = values.add(LONGS, length);
        for (int i = 0; i < length; i++) {
            values.put(sums, i, totalOf(values.placed(x, i)));
        }
        return sums;
    }

    /** All numbers of x together; 0 of none. */
    private long totalOf(int x) {
        long total = 0;
        int length = values.lengthOf(x);
        for (int i = 0; i < length; i++) {
            total += values.cellOf(x, i);
        }
        return total;
    }

    private int widen(int x) {
        if (x == NONE) {
            return fault(NULL);
        }
        if (values.isA(x, BYTES)) {
            return values.addCopy(x, INTS);
        }
        return values.isA(x, INTS) ? values.addCopy(x, LONGS) : fault(CAST);
    }

    private int narrow(int x) {
        if (x == NONE) {
            return fault(NULL);
        }
        if (values.isA(x, LONGS)) {
            return values.addCopy(x, INTS);
        }
        return values.isA(x, INTS) ? values.addCopy(x, BYTES) : fault(CAST);
    }

    private int tap(int x, int n) {
        if (x == NONE) {
            return fault(NULL);
        }
        if (!isBoardForm(values.formOf(x))) {
            return fault(CAST);
        }
        if (!values.hasPlace(x, n)) {
            return fault(INDEX);
        }
        int tapped = values.placed(x, n);
        return tapped == NONE ? fault(NULL) : tapped;
    }

    private int lay(int x, int y, int n) {
        if (!isNoneOr(y, askedByLay(x))) {
            return fault(CAST);
        }
        if (x == NONE) {
            return fault(NULL);
        }
        int form = values.formOf(x);
        if (!isBoardForm(form)) {
            return fault(CAST);
        }
        if (!values.hasPlace(x, n)) {
            return fault(INDEX);
        }
        if (!isNoneOr(y, takenBy(form))) {
            return fault(STORE);
        }
        values.put(x, n, y);
        return x;
    }

    /** What LAY asks y to be: wider than what a live board's places take, hence CAST before STORE. */
    private int askedByLay(int x) {
        if (values.isA(x, GRID)) {
            return INTS;
        }
        if (values.isA(x, LOOM)) {
            return CABLE;
        }
        return values.isA(x, PLUGS) && !values.isA(x, CABLE) ? PLUG : WIRE;
    }

    private boolean isNoneOr(int x, int view) {
        return x == NONE || values.isA(x, view);
    }

    private int levels(int x) {
        if (x == NONE) {
            return fault(NULL);
        }
        if (!values.isA(x, CABLE) && !values.isA(x, PLUGS)) {
            return fault(CAST);
        }
        return levelsTimes(x, 1);
    }

    private int power(int x) {
        if (x == NONE) {
            return fault(NULL);
        }
        if (values.isA(x, PLUG)) {
            return values.addSingle(INTS, 3L * values.levelOf(x));
        }
        return values.isA(x, PLUGS) ? levelsTimes(x, 3) : fault(CAST);
    }

    /** New ints: the level in each place of x, so many times; INTS keep the lowest bits, so it wraps. */
    private int levelsTimes(int x, long times) {
        int length = values.lengthOf(x);
        int ints = values.add(INTS, length);
        for (int i = 0; i < length; i++) {
            values.put(ints, i, times * values.levelOf(values.placed(x, i)));
        }
        return ints;
    }

    private int drive(int x, boolean live) {
        if (x == NONE) {
            return fault(NULL);
        }
        if (!values.isA(x, INTS)) {
            return fault(CAST);
        }
        int length = values.lengthOf(x);
        int firstWire = values.made();
        for (int i = 0; i < length; i++) {
            values.addWire(live ? LIVE : WIRE, (int) values.cellOf(x, i));
        }
        int cable = values.add(live ? LIVE_CABLE : CABLE, length);
        for (int i = 0; i < length; i++) {
            values.put(cable, i, firstWire + i);
        }
        return cable;
    }

    private int pair(int x, int y, boolean live) {
        int asked = live ? LIVE_CABLE : CABLE;
        if (!isNoneOr(x, asked) || !isNoneOr(y, asked)) {
            return fault(CAST);
        }
        if (x == NONE || y == NONE) {
            return fault(NULL);
        }
        int loom = values.add(live ? LIVE_LOOM : LOOM, 2);
        values.put(loom, 0, x);
        values.put(loom, 1, y);
        return loom;
    }

    private int join(int x, int y) {
        boolean rows = values.isNumbers(x);
        int form = values.formOf(x);
        if (!rows && !isNoneOr(x, CABLE) || !isNoneOr(y, rows ? form : CABLE)) {
            return fault(CAST);
        }
        if (x == NONE || y == NONE) {
            return fault(NULL);
        }
        int lengthOfX = values.lengthOf(x);
        int length = lengthOfX + values.lengthOf(y);
        if (length > MOST_PLACES) {
            return fault(SIZE);
        }
        if (form == LIVE_CABLE && !holdsOnlyLives(y)) {
            return fault(STORE);
        }
        int joined = values.add(form, length);
        values.copyCells(x, joined, 0);
        values.copyCells(y, joined, lengthOfX);
        return joined;
    }

    private boolean holdsOnlyLives(int x) {
        int length = values.lengthOf(x);
        for (int i = 0; i < length; i++) {
            if (!isNoneOr(values.placed(x, i), LIVE)) {
                return false;
            }
        }
        return true;
    }

    private int copy(int x) {
        if (x == NONE) {
            return fault(NULL);
        }
        return values.isA(x, WIRE) ? fault(CAST) : values.addCopy(x, values.formOf(x));
    }

    private int makeCable(int n) {
        return isLength(n) ? values.add(CABLE, n) : fault(SIZE);
    }

    private int check(int x, int n) {
        return isView(n) && isNoneOr(x, n) ? x : fault(CAST);
    }

    /**
     * The values by number. Their rows are made once, for all values that there can be, so that no
     * later call needs new ones. What is asked of NONE is answered as of a value without places.
     */
    private static final class Values {
        private final int[] forms = new int[MOST_VALUES];
        private final int[] lengths = new int[MOST_VALUES];
        private final int[] levels = new int[MOST_VALUES];
        /** A row's numbers, or the numbers of the values that stand in a board's places. */
        private final long[] cells = new long[MOST_VALUES * MOST_PLACES];
        private int made = 0;

        int made() {
            return made;
        }

        boolean has(int x) {
            return x >= 0 && x < made;
        }

        boolean hasPlace(int x, int i) {
            return x >= 0 && x < made && i >= 0 && i < lengths[x];
        }

        int formOf(int x) {
            return has(x) ? forms[x] : NONE;
        }

        boolean isA(int x, int view) {
            return has(x) && (viewsOfForm(forms[x]) >> view & 1) == 1;
        }

        boolean isNumbers(int x) {
            return has(x) && forms[x] <= LONGS;
        }

        int lengthOf(int x) {
            return has(x) ? lengths[x] : 0;
        }

        int levelOf(int x) {
            return has(x) ? levels[x] : 0;
        }

        long cellOf(int x, int i) {
            return hasPlace(x, i) ? cells[x * MOST_PLACES + i] : 0;
        }

        /** The value in place i of the board x. */
        int placed(int x, int i) {
            return hasPlace(x, i) ? (int) cells[x * MOST_PLACES + i] : NONE;
        }

        void put(int x, int i, long v) {
            if (hasPlace(x, i)) {
                cells[x * MOST_PLACES + i] = lowestBits(forms[x], v);
            }
        }

        private static long lowestBits(int form, long v) {
            switch (form) {
                case BYTES:
                    return (byte) v;
                case INTS:
                    return (int) v;
                default:
                    return v;
            }
        }

        /** A new value with 0, or none, in its places; ROOM, if there can be no more. */
        int add(int form, int length) {
            if (made >= MOST_VALUES || !isLength(length)) {
                return ROOM;
            }
            int x = made;
            made++;
            forms[x] = form;
            lengths[x] = length;
            levels[x] = 0;
            int atFirst = isBoardForm(form) ? NONE : 0;
            for (int i = 0; i < length; i++) {
                cells[x * MOST_PLACES + i] = atFirst;
            }
            return x;
        }

        int addWire(int form, int level) {
            int x = add(form, 0);
            if (has(x)) {
                levels[x] = level;
            }
            return x;
        }

        int addSingle(int form, long v) {
            int x = add(form, 1);
            put(x, 0, v);
            return x;
        }

        int addCopy(int x, int form) {
            int copied = add(form, lengthOf(x));
            copyCells(x, copied, 0);
            return copied;
        }

        /** What x has in its places comes to those of another, from its place 'at' on. */
        void copyCells(int x, int other, int at) {
            int length = lengthOf(x);
            for (int i = 0; i < length; i++) {
                put(other, at + i, cellOf(x, i));
            }
        }

        int forgetAll() {
            int had = made;
            made = 0;
            return had;
        }
    }

    /** The steps of all patches, MOST_STEPS cells for each patch, made once and used again. */
    private static final class Patches {
        private final int[] lengths = new int[ALL_PATCHES];
        private final int[] acts = new int[ALL_PATCHES * MOST_STEPS];
        private final int[] ys = new int[ALL_PATCHES * MOST_STEPS];
        private final int[] ns = new int[ALL_PATCHES * MOST_STEPS];

        boolean has(int patch) {
            return patch >= 0 && patch < ALL_PATCHES;
        }

        private boolean hasStep(int patch, int k) {
            return has(patch) && k >= 0 && k < lengths[patch];
        }

        int lengthOf(int patch) {
            return has(patch) ? lengths[patch] : 0;
        }

        int actOf(int patch, int k) {
            return hasStep(patch, k) ? acts[patch * MOST_STEPS + k] : CHECK;
        }

        int yOf(int patch, int k) {
            return hasStep(patch, k) ? ys[patch * MOST_STEPS + k] : NONE;
        }

        int nOf(int patch, int k) {
            return hasStep(patch, k) ? ns[patch * MOST_STEPS + k] : 0;
        }

        /** How many steps the patch has with the new one; ROOM, if it can have no more. */
        int append(int patch, int act, int y, int n) {
            if (!has(patch) || lengths[patch] >= MOST_STEPS) {
                return ROOM;
            }
            int cell = patch * MOST_STEPS + lengths[patch];
            acts[cell] = act;
            ys[cell] = y;
            ns[cell] = n;
            lengths[patch]++;
            return lengths[patch];
        }

        int drop(int patch) {
            int had = lengthOf(patch);
            if (has(patch)) {
                lengths[patch] = 0;
            }
            return had;
        }

        void dropAll() {
            for (int patch = 0; patch < ALL_PATCHES; patch++) {
                lengths[patch] = 0;
            }
        }
    }
}
