/** The sentences on FAULTS and the acts 0 to 12, and of promise 7. */
public final class ActBoundsTest implements Names {
    private static final Due DUE = new Due("ActBoundsTest");
    private static final int[] MAKERS = {SUM, WIDEN, NARROW, LEVELS, DRIVE, PAIR, POWER, JOIN, COPY,
        NEW};
    private static final int[] BOARDS = {GRID, CABLE, LIVE_CABLE, PLUGS, LOOM, LIVE_LOOM};
    private static final int[] NO_PLACES = {LEAST, -1, 3, 8, MOST};

    public static void main(String[] args) {
        faultsChangeNothing();
        full();
        fullGoesAhead();
        fullDrive();
        ofNone();
        sum();
        sumOfGrid();
        widen();
        narrow();
        tap();
        layAsks();
        layOfAnyOther();
        layThenIndexThenStore();
        levels();
        drive();
        pair();
        pairLive();
        power();
        powerOfPlugs();
        join();
        joinCast();
        joinNullSizeStore();
        copy();
        makeNew();
        check();
        act();
        DUE.end();
    }

    /** The act has the fault with each of these, and changes nothing. */
    private static void allFault(int act, int y, int n, int want, int... xs) {
        for (int x : xs) {
            DUE.faulted(Panels::inUse, act, x, y, n, want);
        }
    }

    private static void faultsChangeNothing() {
        DUE.says("FAULTS (an act that has one changes nothing)");
        DUE.faulted(Panels::inUse, SUM, LIVE, NONE, 0, CAST);
        DUE.faulted(Panels::inUse, TAP, CABLE, NONE, 0, NULL);
        DUE.faulted(Panels::inUse, LAY, CABLE, LIVE, 3, INDEX);
        DUE.faulted(Panels::inUse, LAY, LIVE_CABLE, WIRE, 1, STORE);
        DUE.faulted(Panels::inUse, LAY, LIVE_LOOM, CABLE, 1, STORE);
        DUE.faulted(Panels::inUse, LAY, PLUGS, WIRE, 1, CAST);
        DUE.faulted(Panels::inUse, JOIN, LIVE_CABLE, CABLE, 0, STORE);
        DUE.faulted(Panels::inUse, NEW, NONE, NONE, 9, SIZE);
        DUE.faulted(Panels::full, DRIVE, INTS, NONE, 1, FULL);
        DUE.faulted(() -> Panels.of(58), DRIVE, INTS, NONE, 1, FULL);
    }

    private static void full() {
        DUE.says("6 FULL (there would be more than 60 VALUES;");
        int[] xs = {INTS, INTS, INTS, CABLE, 11, CABLE, LIVE, INTS, GRID, NONE};
        int[] ys = {NONE, NONE, NONE, NONE, NONE, LIVE_CABLE, NONE, INTS, NONE, NONE};
        for (int m = 0; m < MAKERS.length; m++) {
            // Value 11 is INTS without numbers, so DRIVE makes one, too.
            LoomPanel p = Panels.ofEachForm();
            p.row(INTS, 0);
            Panels.fill(p, 59);
            DUE.act(p, MAKERS[m], xs[m], ys[m], 0, 59);
            DUE.act(p, MAKERS[m], xs[m], ys[m], 0, FULL);
            DUE.same("count(0)", p.count(0), 60);
            DUE.same("count(1)", p.count(1), 1);
            DUE.same("count(2)", p.count(2), 6);
        }
        LoomPanel p = Panels.full();
        DUE.act(p, LAY, CABLE, LIVE, 2, CABLE);
        DUE.act(p, TAP, CABLE, NONE, 2, LIVE);
        DUE.act(p, CHECK, CABLE, NONE, CABLE, CABLE);
        DUE.same("3, 4, 12 make none", p.count(1), 0);
    }

    private static void fullGoesAhead() {
        DUE.says("ahead of all others of acts that make some: 0 to 2, 5, 7 to 11 one");
        for (int act : MAKERS) {
            LoomPanel p = Panels.full();
            p.act(LAY, CABLE, WIRE, 0);
            for (int x = NONE; x <= LIVE_LOOM; x++) {
                for (int y : new int[] {NONE, BYTES, CABLE, LIVE_LOOM}) {
                    DUE.act(p, act, x, y, -1, FULL);
                    DUE.act(p, act, x, y, 9, FULL);
                }
            }
            DUE.act(p, JOIN, LIVE_CABLE, CABLE, 0, FULL);
        }
        LoomPanel p = Panels.full();
        DUE.act(p, TAP, WIRE, NONE, 0, CAST);
        DUE.act(p, LAY, NONE, NONE, 0, NULL);
        DUE.act(p, TAP, CABLE, NONE, 3, INDEX);
        DUE.act(p, LAY, LIVE_CABLE, WIRE, 0, STORE);
        DUE.act(p, CHECK, CABLE, NONE, WIRE, CAST);
        DUE.act(p, SUM, 60, NONE, 0, BAD);
        LoomPanel oneLess = Panels.of(59);
        DUE.act(oneLess, SUM, WIRE, NONE, 0, CAST);
        DUE.act(oneLess, NEW, NONE, NONE, 9, SIZE);
        DUE.act(oneLess, PAIR, NONE, NONE, 0, NULL);
    }

    private static void fullDrive() {
        DUE.says("6 one and, if x is INTS, one for each number)");
        for (int numbers = 0; numbers <= 8; numbers++) {
            for (int live = 0; live <= 1; live++) {
                LoomPanel fits = new LoomPanel();
                fits.row(INTS, numbers);
                Panels.fill(fits, 59 - numbers);
                DUE.act(fits, DRIVE, 0, NONE, live, 59);
                DUE.same("count(0)", fits.count(0), 60);
                LoomPanel tooMany = new LoomPanel();
                tooMany.row(INTS, numbers);
                Panels.fill(tooMany, 60 - numbers);
                DUE.act(tooMany, DRIVE, 0, NONE, live, FULL);
                DUE.same("count(0)", tooMany.count(0), 60 - numbers);
            }
        }
        LoomPanel p = Panels.of(59);
        DUE.act(p, DRIVE, INTS, NONE, 0, FULL);
        DUE.act(p, DRIVE, BYTES, NONE, 0, CAST);
        DUE.act(p, DRIVE, GRID, NONE, 0, CAST);
        DUE.act(p, DRIVE, NONE, NONE, 0, NULL);
    }

    private static void ofNone() {
        DUE.says("Where x is none: NULL;");
        for (int act : new int[] {SUM, WIDEN, NARROW, LEVELS, DRIVE, POWER, COPY}) {
            for (int n : new int[] {LEAST, -1, 0, 1, 9, MOST}) {
                DUE.faulted(Panels::inUse, act, NONE, NONE, n, NULL);
                DUE.faulted(Panels::inUse, act, NONE, INTS, n, NULL);
            }
        }
        DUE.says("but of 3, 4, 7, 9 as told");
        DUE.faulted(Panels::inUse, TAP, NONE, NONE, 9, NULL);
        DUE.faulted(Panels::inUse, LAY, NONE, BYTES, 0, CAST);
        DUE.faulted(Panels::inUse, PAIR, NONE, BYTES, 0, CAST);
        DUE.faulted(Panels::inUse, JOIN, NONE, BYTES, 0, CAST);
        DUE.says("11 does not ask for it");
        for (int x = NONE; x <= LIVE_LOOM; x++) {
            DUE.act(Panels.inUse(), NEW, x, NONE, 3, NEXT);
            DUE.faulted(Panels::inUse, NEW, x, NONE, 9, SIZE);
        }
        DUE.says("and none goes through 12.");
        for (int n = 0; n <= 11; n++) {
            LoomPanel p = Panels.inUse();
            DUE.act(p, CHECK, NONE, NONE, n, NONE);
            DUE.same("count(1)", p.count(1), Panels.inUse().count(1));
        }
    }

    private static void sum() {
        DUE.says("0 SUM: of BYTES, INTS, LONGS new LONGS of one place, all together (wrapping)");
        long[][] numbers = {{127, 127, 127}, {-128, -128, -128}, {MOST, MOST, MOST},
            {LEAST, LEAST, LEAST}, {Long.MAX_VALUE, 1, 0}, {Long.MIN_VALUE, -1, 0},
            {Long.MAX_VALUE, Long.MAX_VALUE, 3}};
        int[] rows = {BYTES, BYTES, INTS, INTS, LONGS, LONGS, LONGS};
        long[] sums = {381, -384, 3L * MOST, 3L * LEAST, Long.MIN_VALUE, Long.MAX_VALUE, 1};
        LoomPanel p = Panels.ofEachForm();
        for (int k = 0; k < rows.length; k++) {
            for (int i = 0; i < 3; i++) {
                p.set(rows[k], i, numbers[k][i]);
            }
            DUE.act(p, SUM, rows[k], NONE, 0, NEXT + k);
            DUE.row("SUM", p, NEXT + k, sums[k]);
            DUE.same("new LONGS", p.views(NEXT + k), 1 << LONGS);
            DUE.row("SUM leaves x", p, rows[k], numbers[k]);
        }
        for (int form = BYTES; form <= LONGS; form++) {
            LoomPanel q = new LoomPanel();
            q.row(form, 0);
            q.row(form, 8);
            q.set(1, 0, 1);
            q.set(1, 7, 2);
            DUE.act(q, SUM, 0, NONE, 0, 2);
            DUE.row("SUM of no numbers", q, 2, 0);
            DUE.act(q, SUM, 1, NONE, 0, 3);
            DUE.row("SUM of eight", q, 3, 3);
        }
    }

    private static void sumOfGrid() {
        DUE.says("of a GRID new LONGS, of each PLACE that of its INTS (none: 0). Else CAST.");
        LoomPanel p = new LoomPanel();
        p.board(GRID, 8);
        p.board(GRID, 0);
        p.row(INTS, 8);
        p.row(INTS, 0);
        for (int i = 0; i < 8; i++) {
            p.set(2, i, LEAST);
        }
        p.act(LAY, 0, 2, 0);
        p.act(LAY, 0, 3, 3);
        p.act(LAY, 0, 2, 7);
        DUE.act(p, SUM, 0, NONE, 0, 4);
        DUE.row("SUM of a GRID", p, 4, 8L * LEAST, 0, 0, 0, 0, 0, 0, 8L * LEAST);
        DUE.same("new LONGS", p.views(4), 1 << LONGS);
        DUE.act(p, SUM, 1, NONE, 0, 5);
        DUE.row("SUM of a GRID of no PLACES", p, 5);
        DUE.same("new LONGS", p.views(5), 1 << LONGS);
        p.board(GRID, 2);
        DUE.act(p, SUM, 6, NONE, 0, 7);
        DUE.row("SUM of a GRID of none", p, 7, 0, 0);
        allFault(SUM, NONE, 0, CAST, WIRE, LIVE, CABLE, LIVE_CABLE, PLUGS, LOOM, LIVE_LOOM);
    }

    private static void widen() {
        DUE.says("1 WIDEN: of BYTES new INTS, of INTS new LONGS; else CAST.");
        widthOf(WIDEN, BYTES, INTS, new long[] {-128, -1, 127}, new long[] {-128, -1, 127});
        widthOf(WIDEN, INTS, LONGS, new long[] {LEAST, -1, MOST}, new long[] {LEAST, -1, MOST});
        allFault(WIDEN, NONE, 0, CAST, LONGS, GRID, WIRE, LIVE, CABLE, LIVE_CABLE, PLUGS, LOOM,
                LIVE_LOOM);
    }

    private static void narrow() {
        DUE.says("2 NARROW: of LONGS new INTS, of INTS new BYTES, the lowest bits of each; else CAST.");
        widthOf(NARROW, LONGS, INTS, new long[] {0x180000000L, Long.MIN_VALUE, Long.MAX_VALUE},
                new long[] {LEAST, 0, -1});
        widthOf(NARROW, LONGS, INTS, new long[] {MOST + 1L, LEAST - 1L, 1L << 32},
                new long[] {LEAST, MOST, 0});
        widthOf(NARROW, INTS, BYTES, new long[] {128, -129, 256}, new long[] {-128, 127, 0});
        widthOf(NARROW, INTS, BYTES, new long[] {MOST, LEAST, 0x180}, new long[] {-1, 0, -128});
        allFault(NARROW, NONE, 0, CAST, BYTES, GRID, WIRE, LIVE, CABLE, LIVE_CABLE, PLUGS, LOOM,
                LIVE_LOOM);
    }

    private static void widthOf(int act, int from, int to, long[] numbers, long[] want) {
        LoomPanel p = new LoomPanel();
        p.row(from, 3);
        p.row(from, 0);
        for (int i = 0; i < 3; i++) {
            p.set(0, i, numbers[i]);
        }
        DUE.act(p, act, 0, NONE, 0, 2);
        DUE.row("act " + act, p, 2, want);
        DUE.same("its FORM", p.views(2), 1 << to);
        DUE.row("x after act " + act, p, 0, numbers);
        DUE.act(p, act, 1, NONE, 0, 3);
        DUE.row("act of no numbers", p, 3);
        DUE.same("its FORM", p.views(3), 1 << to);
        p.set(0, 0, 9);
        DUE.row("the new one is not x", p, 2, want);
    }

    private static void tap() {
        DUE.says("3 TAP: what PLACE n of a GRID, CABLE, PLUGS, LOOM has.");
        int[] has = {INTS, WIRE, LIVE, LIVE, CABLE, LIVE_CABLE};
        LoomPanel p = Panels.inUse();
        for (int b = 0; b < BOARDS.length; b++) {
            DUE.act(p, TAP, BOARDS[b], NONE, 1, has[b]);
        }
        DUE.says("CAST: x is something else; NULL: x is none; INDEX; NULL: the PLACE has none.");
        for (int n : new int[] {LEAST, -1, 0, 1, 3, MOST}) {
            allFault(TAP, NONE, n, CAST, BYTES, INTS, LONGS, WIRE, LIVE);
            allFault(TAP, NONE, n, NULL, NONE);
        }
        for (int n : NO_PLACES) {
            allFault(TAP, NONE, n, INDEX, BOARDS);
        }
        allFault(TAP, NONE, 0, NULL, BOARDS);
        allFault(TAP, NONE, 2, NULL, BOARDS);
    }

    private static void layAsks() {
        DUE.says("4 LAY: y (none, too) comes to PLACE n of x; it gives x.");
        LoomPanel p = Panels.inUse();
        int[] fitting = {INTS, WIRE, LIVE, LIVE, CABLE, LIVE_CABLE};
        for (int b = 0; b < BOARDS.length; b++) {
            for (int n = 0; n < 3; n++) {
                DUE.act(p, LAY, BOARDS[b], fitting[b], n, BOARDS[b]);
                DUE.act(p, TAP, BOARDS[b], NONE, n, fitting[b]);
            }
            DUE.act(p, LAY, BOARDS[b], NONE, 2, BOARDS[b]);
            DUE.act(p, TAP, BOARDS[b], NONE, 2, NULL);
            DUE.act(p, TAP, BOARDS[b], NONE, 1, fitting[b]);
        }
        for (int n : new int[] {-1, 0, 3}) {
            DUE.says("x a GRID: CAST, if y is not none and is not INTS");
            layCasts(GRID, n, BYTES, LONGS, GRID, WIRE, LIVE, CABLE, LIVE_CABLE, PLUGS, LOOM,
                    LIVE_LOOM);
            DUE.says("x a LOOM: not a CABLE");
            layCasts(LOOM, n, BYTES, INTS, LONGS, GRID, WIRE, LIVE, PLUGS, LOOM, LIVE_LOOM);
            layCasts(LIVE_LOOM, n, BYTES, INTS, LONGS, GRID, WIRE, LIVE, PLUGS, LOOM, LIVE_LOOM);
            DUE.says("x PLUGS, but no CABLE: not a PLUG");
            layCasts(PLUGS, n, BYTES, INTS, LONGS, GRID, WIRE, CABLE, LIVE_CABLE, PLUGS, LOOM,
                    LIVE_LOOM);
        }
    }

    private static void layCasts(int x, int n, int... ys) {
        for (int y : ys) {
            DUE.faulted(Panels::inUse, LAY, x, y, n, CAST);
        }
    }

    private static void layOfAnyOther() {
        DUE.says("any other x (none, too): CAST, if y is not none and no WIRE, then if x is no CABLE "
                + "(none apart); NULL: x is none.");
        for (int n : new int[] {-1, 0, 3}) {
            for (int x : new int[] {NONE, BYTES, INTS, LONGS, WIRE, LIVE, CABLE, LIVE_CABLE}) {
                layCasts(x, n, BYTES, INTS, LONGS, GRID, CABLE, LIVE_CABLE, PLUGS, LOOM, LIVE_LOOM);
            }
            for (int x : new int[] {BYTES, INTS, LONGS, WIRE, LIVE}) {
                layCasts(x, n, NONE, WIRE, LIVE);
            }
            for (int y : new int[] {NONE, WIRE, LIVE}) {
                DUE.faulted(Panels::inUse, LAY, NONE, y, n, NULL);
            }
        }
    }

    private static void layThenIndexThenStore() {
        DUE.says("Then INDEX; then STORE: y is not none, and the PLACE does not take it.");
        int[] fitting = {INTS, LIVE, WIRE, LIVE, LIVE_CABLE, CABLE};
        for (int n : NO_PLACES) {
            for (int b = 0; b < BOARDS.length; b++) {
                DUE.faulted(Panels::inUse, LAY, BOARDS[b], fitting[b], n, INDEX);
                DUE.faulted(Panels::inUse, LAY, BOARDS[b], NONE, n, INDEX);
            }
        }
        for (int n = 0; n < 3; n++) {
            DUE.faulted(Panels::inUse, LAY, LIVE_CABLE, WIRE, n, STORE);
            DUE.faulted(Panels::inUse, LAY, LIVE_LOOM, CABLE, n, STORE);
            DUE.act(Panels.inUse(), LAY, LIVE_CABLE, NONE, n, LIVE_CABLE);
            DUE.act(Panels.inUse(), LAY, LIVE_LOOM, NONE, n, LIVE_LOOM);
        }
    }

    private static void levels() {
        DUE.says("5 LEVELS: of a CABLE, PLUGS new INTS, of each PLACE the LEVEL (none: 0); else CAST.");
        LoomPanel p = new LoomPanel();
        p.wire(true, LEAST);
        p.wire(true, MOST);
        int made = 2;
        for (int form : new int[] {CABLE, LIVE_CABLE, PLUGS}) {
            p.board(form, 8);
            p.board(form, 0);
            p.board(form, 1);
            p.act(LAY, made, 0, 0);
            p.act(LAY, made, 1, 7);
            DUE.act(p, LEVELS, made, NONE, 0, made + 3);
            DUE.row("LEVELS", p, made + 3, LEAST, 0, 0, 0, 0, 0, 0, MOST);
            DUE.same("new INTS", p.views(made + 3), 1 << INTS);
            DUE.act(p, LEVELS, made + 1, NONE, 0, made + 4);
            DUE.row("LEVELS of no PLACES", p, made + 4);
            DUE.act(p, LEVELS, made + 2, NONE, 0, made + 5);
            DUE.row("LEVELS of none", p, made + 5, 0);
            made += 6;
        }
        LoomPanel q = Panels.inUse();
        DUE.act(q, LEVELS, CABLE, NONE, 0, NEXT);
        DUE.row("LEVELS of a CABLE with a WIRE", q, NEXT, 0, 5, 0);
        allFault(LEVELS, NONE, 0, CAST, BYTES, INTS, LONGS, GRID, WIRE, LIVE, LOOM, LIVE_LOOM);
    }

    private static void drive() {
        DUE.says("6 DRIVE: of INTS (else CAST) a new CABLE, by n not 0 a new LIVE CABLE, with a new "
                + "WIRE (LIVE) of each number: these come ahead of it, in order.");
        for (int n : new int[] {0, 1, -1, 2, LEAST, MOST}) {
            LoomPanel p = new LoomPanel();
            p.row(INTS, 8);
            p.row(INTS, 0);
            long[] level = {LEAST, -1, 0, 1, MOST, 5, 5, 7};
            for (int i = 0; i < 8; i++) {
                p.set(0, i, level[i]);
            }
            DUE.act(p, DRIVE, 0, NONE, n, 10);
            DUE.same("the cable", p.is(10, LIVE_CABLE), n == 0 ? 0 : 1);
            DUE.same("the cable", p.is(10, CABLE), 1);
            DUE.same("its size", p.size(10), 8);
            for (int i = 0; i < 8; i++) {
                DUE.act(p, TAP, 10, NONE, i, 2 + i);
                DUE.same("a WIRE", p.is(2 + i, WIRE), 1);
                DUE.same("a LIVE", p.is(2 + i, LIVE), n == 0 ? 0 : 1);
                DUE.same("its LEVEL", p.number(2 + i, 0), level[i]);
            }
            DUE.act(p, DRIVE, 1, NONE, n, 11);
            DUE.same("DRIVE of no numbers", p.size(11), 0);
            DUE.same("DRIVE of no numbers", p.is(11, LIVE_CABLE), n == 0 ? 0 : 1);
            p.set(0, 0, 3);
            DUE.same("the WIRE is new", p.number(2, 0), LEAST);
        }
        for (int n = 0; n <= 1; n++) {
            allFault(DRIVE, NONE, n, CAST, BYTES, LONGS, GRID, WIRE, LIVE, CABLE, LIVE_CABLE, PLUGS,
                    LOOM, LIVE_LOOM);
        }
    }

    private static void pair() {
        DUE.says("7 PAIR: of two CABLES a new LOOM with both (CAST: x or y is neither one nor none; "
                + "then NULL: one is none)");
        int[] cables = {CABLE, LIVE_CABLE};
        for (int x : cables) {
            for (int y : cables) {
                LoomPanel p = Panels.inUse();
                DUE.act(p, PAIR, x, y, 0, NEXT);
                DUE.same("a LOOM", p.views(NEXT), 1 << LOOM);
                DUE.same("of two", p.size(NEXT), 2);
                DUE.act(p, TAP, NEXT, NONE, 0, x);
                DUE.act(p, TAP, NEXT, NONE, 1, y);
            }
            DUE.faulted(Panels::inUse, PAIR, x, NONE, 0, NULL);
            DUE.faulted(Panels::inUse, PAIR, NONE, x, 0, NULL);
        }
        DUE.faulted(Panels::inUse, PAIR, NONE, NONE, 0, NULL);
        for (int other : new int[] {BYTES, INTS, LONGS, GRID, WIRE, LIVE, PLUGS, LOOM, LIVE_LOOM}) {
            for (int cable : new int[] {NONE, CABLE, LIVE_CABLE}) {
                DUE.faulted(Panels::inUse, PAIR, other, cable, 0, CAST);
                DUE.faulted(Panels::inUse, PAIR, cable, other, 0, CAST);
            }
        }
    }

    private static void pairLive() {
        DUE.says("by n not 0 a LIVE LOOM of two LIVE CABLES likewise.");
        for (int n : new int[] {1, -1, LEAST, MOST}) {
            LoomPanel p = Panels.inUse();
            DUE.act(p, PAIR, LIVE_CABLE, LIVE_CABLE, n, NEXT);
            DUE.same("a LIVE LOOM", p.views(NEXT), 1 << LIVE_LOOM | 1 << LOOM);
            DUE.act(p, TAP, NEXT, NONE, 0, LIVE_CABLE);
            DUE.act(p, TAP, NEXT, NONE, 1, LIVE_CABLE);
            DUE.act(p, TAP, NEXT, NONE, 2, INDEX);
            DUE.faulted(Panels::inUse, PAIR, LIVE_CABLE, NONE, n, NULL);
            DUE.faulted(Panels::inUse, PAIR, NONE, LIVE_CABLE, n, NULL);
            DUE.faulted(Panels::inUse, PAIR, NONE, NONE, n, NULL);
            for (int other : new int[] {BYTES, LIVE, CABLE, PLUGS, LIVE_LOOM}) {
                for (int cable : new int[] {NONE, LIVE_CABLE}) {
                    DUE.faulted(Panels::inUse, PAIR, other, cable, n, CAST);
                    DUE.faulted(Panels::inUse, PAIR, cable, other, n, CAST);
                }
            }
        }
    }

    private static void power() {
        DUE.says("8 POWER: of a PLUG new INTS of one place, three times its LEVEL (wrapping)");
        int[] levels = {0, -1, 715827882, 715827883, -715827882, -715827883, MOST, LEAST};
        int[] powers = {0, -3, MOST - 1, LEAST + 1, LEAST + 2, MOST, MOST - 2, LEAST};
        LoomPanel p = new LoomPanel();
        for (int k = 0; k < levels.length; k++) {
            int live = p.wire(true, levels[k]);
            DUE.act(p, POWER, live, NONE, 0, live + 1);
            DUE.row("POWER of " + levels[k], p, live + 1, powers[k]);
            DUE.same("new INTS", p.views(live + 1), 1 << INTS);
            DUE.same("the LEVEL stays", p.number(live, 0), levels[k]);
        }
    }

    private static void powerOfPlugs() {
        DUE.says("of PLUGS new INTS, that of each (none: 0); else CAST (of a VALUE that is neither).");
        for (int form : new int[] {PLUGS, LIVE_CABLE}) {
            LoomPanel p = new LoomPanel();
            p.wire(true, LEAST);
            p.wire(true, MOST);
            p.board(form, 8);
            p.board(form, 0);
            p.act(LAY, 2, 0, 0);
            p.act(LAY, 2, 1, 7);
            DUE.act(p, POWER, 2, NONE, 0, 4);
            DUE.row("POWER of eight", p, 4, LEAST, 0, 0, 0, 0, 0, 0, MOST - 2);
            DUE.same("new INTS", p.views(4), 1 << INTS);
            DUE.act(p, POWER, 3, NONE, 0, 5);
            DUE.row("POWER of no PLACES", p, 5);
        }
        allFault(POWER, NONE, 0, CAST, BYTES, INTS, LONGS, GRID, WIRE, CABLE, LOOM, LIVE_LOOM);
    }

    private static void join() {
        DUE.says("9 JOIN: of two BYTES, two INTS, two LONGS, two CABLES new ones: the places of x, "
                + "then those of y; of a LIVE CABLE x a LIVE CABLE.");
        for (int form = BYTES; form <= LONGS; form++) {
            LoomPanel p = new LoomPanel();
            for (int n = 0; n <= 8; n++) {
                p.row(form, n);
                p.set(n, 0, n);
                p.set(n, n - 1, -n);
            }
            DUE.act(p, JOIN, 0, 0, 0, 9);
            DUE.row("JOIN of 0 and 0", p, 9);
            DUE.act(p, JOIN, 0, 8, 0, 10);
            DUE.row("JOIN of 0 and 8", p, 10, 8, 0, 0, 0, 0, 0, 0, -8);
            DUE.act(p, JOIN, 8, 0, 0, 11);
            DUE.row("JOIN of 8 and 0", p, 11, 8, 0, 0, 0, 0, 0, 0, -8);
            DUE.act(p, JOIN, 2, 3, 0, 12);
            DUE.row("JOIN of 2 and 3", p, 12, 2, -2, 3, 0, -3);
            DUE.act(p, JOIN, 4, 4, 0, 13);
            DUE.row("JOIN of 4 and itself", p, 13, 4, 0, 0, -4, 4, 0, 0, -4);
            DUE.same("its FORM", p.views(13), 1 << form);
            p.set(4, 0, 9);
            DUE.same("a new one", p.number(13, 0), 4);
        }
        int[] cables = {CABLE, LIVE_CABLE};
        for (int x : cables) {
            for (int y : cables) {
                LoomPanel p = Panels.ofEachForm();
                p.act(LAY, x, LIVE, 0);
                p.act(LAY, y, LIVE, 2);
                DUE.act(p, JOIN, x, y, 0, NEXT);
                DUE.same("of x's FORM", p.views(NEXT), p.views(x));
                DUE.same("of six", p.size(NEXT), 6);
                for (int i = 0; i < 6; i++) {
                    boolean has = x == y ? i % 3 != 1 : i == 0 || i == 5;
                    DUE.act(p, TAP, NEXT, NONE, i, has ? LIVE : NULL);
                }
            }
        }
    }

    private static void joinCast() {
        DUE.says("CAST: x is something else (not none), or y is (not none; of x that is none or a "
                + "CABLE: no CABLE; else not of x's FORM).");
        for (int x : new int[] {GRID, WIRE, LIVE, PLUGS, LOOM, LIVE_LOOM}) {
            DUE.faulted(Panels::inUse, JOIN, x, NONE, 0, CAST);
            DUE.faulted(Panels::inUse, JOIN, x, x, 0, CAST);
            DUE.faulted(Panels::inUse, JOIN, x, CABLE, 0, CAST);
        }
        for (int x : new int[] {NONE, CABLE, LIVE_CABLE}) {
            for (int y : new int[] {BYTES, INTS, LONGS, GRID, WIRE, LIVE, PLUGS, LOOM, LIVE_LOOM}) {
                DUE.faulted(Panels::inUse, JOIN, x, y, 0, CAST);
            }
        }
        for (int x = BYTES; x <= LONGS; x++) {
            for (int y = BYTES; y <= LIVE_LOOM; y++) {
                if (y != x) {
                    DUE.faulted(Panels::inUse, JOIN, x, y, 0, CAST);
                }
            }
        }
    }

    private static void joinNullSizeStore() {
        DUE.says("Then NULL: x or y is none.");
        for (int other : new int[] {NONE, CABLE, LIVE_CABLE}) {
            DUE.faulted(Panels::inUse, JOIN, NONE, other, 0, NULL);
            DUE.faulted(Panels::inUse, JOIN, other, NONE, 0, NULL);
        }
        for (int x = BYTES; x <= LONGS; x++) {
            DUE.faulted(Panels::inUse, JOIN, x, NONE, 0, NULL);
        }
        DUE.says("SIZE: more than 8 places.");
        for (int form : new int[] {BYTES, INTS, LONGS, CABLE, LIVE_CABLE}) {
            LoomPanel p = new LoomPanel();
            for (int n = 0; n <= 8; n++) {
                Panels.make(p, form, n);
            }
            int made = 9;
            for (int n = 0; n <= 8; n++) {
                DUE.act(p, JOIN, n, 8 - n, 0, made);
                DUE.same("its size", p.size(made), 8);
                made++;
                for (int tooMany = 9 - n; tooMany <= 8; tooMany++) {
                    DUE.act(p, JOIN, n, tooMany, 0, SIZE);
                }
            }
            DUE.same("SIZE makes nothing", p.count(0), made);
        }
        DUE.says("STORE: of a LIVE CABLE x y has something that is no LIVE.");
        for (int place = 0; place < 5; place++) {
            LoomPanel p = Panels.ofEachForm();
            p.board(CABLE, 5);
            p.act(LAY, NEXT, WIRE, place);
            DUE.act(p, JOIN, LIVE_CABLE, NEXT, 0, STORE);
            DUE.act(p, JOIN, CABLE, NEXT, 0, NEXT + 1);
            p.act(LAY, NEXT, LIVE, place);
            DUE.act(p, JOIN, LIVE_CABLE, NEXT, 0, NEXT + 2);
            DUE.act(p, TAP, NEXT + 2, NONE, 3 + place, LIVE);
            p.act(LAY, NEXT, NONE, place);
            DUE.act(p, JOIN, LIVE_CABLE, NEXT, 0, NEXT + 3);
        }
        LoomPanel p = Panels.ofEachForm();
        p.board(CABLE, 6);
        p.act(LAY, NEXT, WIRE, 0);
        DUE.act(p, JOIN, LIVE_CABLE, NEXT, 0, SIZE);
    }

    private static void copy() {
        DUE.says("10 COPY: a new one of x's FORM with the same in its places; CAST: a WIRE (a LIVE, "
                + "too).");
        for (int x = BYTES; x <= LIVE_LOOM; x++) {
            if (x == WIRE || x == LIVE) {
                DUE.faulted(Panels::inUse, COPY, x, NONE, 0, CAST);
                continue;
            }
            LoomPanel p = Panels.inUse();
            DUE.act(p, COPY, x, NONE, 0, NEXT);
            DUE.same("its FORM", p.views(NEXT), p.views(x));
            for (int i = 0; i < 3; i++) {
                DUE.same("number " + i, p.number(NEXT, i), p.number(x, i));
                DUE.act(p, TAP, NEXT, NONE, i, p.act(TAP, x, NONE, i));
            }
            for (int n : new int[] {0, 8}) {
                int y = Panels.make(p, x, n);
                DUE.act(p, COPY, y, NONE, 0, y + 1);
                DUE.same("its size", p.size(y + 1), n);
                DUE.same("its FORM", p.views(y + 1), p.views(x));
            }
            p.set(x, 0, 99);
            DUE.same("a new row", p.number(NEXT, 0), x <= LONGS ? 11 + x : 0);
            int had = p.act(TAP, x, NONE, 1);
            p.act(LAY, x, NONE, 1);
            DUE.act(p, TAP, NEXT, NONE, 1, had);
        }
    }

    private static void makeNew() {
        DUE.says("11 NEW: a CABLE of n PLACES. SIZE: n is below 0, or above 8.");
        LoomPanel p = new LoomPanel();
        for (int n = 0; n <= 8; n++) {
            DUE.act(p, NEW, NONE, NONE, n, n);
            DUE.same("a CABLE", p.views(n), 1 << CABLE);
            DUE.same("its size", p.size(n), n);
            for (int i = 0; i < n; i++) {
                DUE.act(p, TAP, n, NONE, i, NULL);
            }
        }
        for (int n : new int[] {LEAST, -9, -1, 9, 16, MOST}) {
            DUE.faulted(Panels::inUse, NEW, NONE, NONE, n, SIZE);
        }
    }

    private static void check() {
        DUE.says("12 CHECK: it gives x, if that IS VIEW n (0 to 11), or none; else CAST (by another n "
                + "always).");
        LoomPanel p = Panels.ofEachForm();
        for (int x = BYTES; x <= LIVE_LOOM; x++) {
            for (int n = 0; n <= 11; n++) {
                DUE.act(p, CHECK, x, NONE, n, p.is(x, n) == 1 ? x : CAST);
            }
        }
        for (int n : new int[] {LEAST, -32, -1, 12, 32, 37, 64, MOST}) {
            for (int x : new int[] {NONE, BYTES, LIVE, LIVE_CABLE, LIVE_LOOM}) {
                DUE.faulted(Panels::inUse, CHECK, x, NONE, n, CAST);
            }
        }
    }

    private static void act() {
        DUE.says("An act 0 to 12: the VALUE that it gives (NONE: none); -10 less a FAULT. BAD: the "
                + "act, x, y.");
        for (int act : new int[] {LEAST, -1, 13, MOST}) {
            DUE.refused("act(" + act + ", ..)", Panels::inUse, p -> p.act(act, BYTES, NONE, 0), BAD);
            DUE.refused("act(" + act + ", ..) of 60", Panels::full,
                    p -> p.act(act, NONE, NONE, 0), BAD);
        }
        for (int v : new int[] {LEAST, -11, -4, -3, ITSELF, NEXT, 59, 60, MOST}) {
            for (int act = SUM; act <= CHECK; act++) {
                int of = act;
                DUE.refused("act(" + act + ", " + v + ", ..)", Panels::inUse,
                        p -> p.act(of, v, NONE, 0), BAD);
                DUE.refused("act(" + act + ", .., " + v + ", ..)", Panels::inUse,
                        p -> p.act(of, INTS, v, 0), BAD);
            }
        }
        for (int act = SUM; act <= CHECK; act++) {
            int of = act;
            DUE.refused("act(" + act + ", 60, ..) of 60", Panels::full,
                    p -> p.act(of, 60, NONE, 9), BAD);
            DUE.refused("act(" + act + ", .., 60, ..) of 60", Panels::full,
                    p -> p.act(of, NONE, 60, 9), BAD);
        }
    }
}
