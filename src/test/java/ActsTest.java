/** Promise 7 (act): each act, its faults and their order. */
public final class ActsTest implements Names {
    private static final Due DUE = new Due("ActsTest");

    public static void main(String[] args) {
        refusals();
        sums();
        widths();
        taps();
        lays();
        laysStore();
        levels();
        drives();
        pairs();
        powers();
        joins();
        joinedCables();
        copies();
        news();
        checks();
        full();
        fullDrive();
        DUE.end();
    }

    private static void due(LoomPanel p, int act, int x, int y, int n, int want) {
        DUE.same("act(" + act + ", " + x + ", " + y + ", " + n + ")", p.act(act, x, y, n), want);
    }

    /** The act has the fault with each of these, and changes nothing. */
    private static void allFault(int act, int n, int fault, int... xs) {
        LoomPanel p = Panels.ofEachForm();
        int faults = 0;
        for (int x : xs) {
            due(p, act, x, NONE, n, fault);
            faults++;
            DUE.same("count(0) after a FAULT", p.count(0), NEXT);
            DUE.same("count(1) after a FAULT", p.count(1), faults);
            DUE.same("count(2) after a FAULT", p.count(2), -10 - fault);
        }
    }

    private static void refusals() {
        LoomPanel p = Panels.ofEachForm();
        for (int act : new int[] {-1, 13, Integer.MIN_VALUE, Integer.MAX_VALUE}) {
            due(p, act, BYTES, NONE, 0, BAD);
        }
        for (int v : new int[] {NEXT, -2, -3, Integer.MIN_VALUE, Integer.MAX_VALUE}) {
            for (int act = SUM; act <= CHECK; act++) {
                due(p, act, v, NONE, 0, BAD);
                due(p, act, BYTES, v, 0, BAD);
            }
        }
        DUE.same("BAD makes nothing", p.count(0), NEXT);
        DUE.same("BAD is no FAULT", p.count(1), 0);
    }

    private static void sums() {
        LoomPanel p = Panels.ofEachForm();
        p.set(BYTES, 0, -128);
        p.set(BYTES, 1, -128);
        p.set(INTS, 0, Integer.MAX_VALUE);
        p.set(INTS, 1, Integer.MAX_VALUE);
        p.set(LONGS, 0, Long.MAX_VALUE);
        p.set(LONGS, 1, 2);
        due(p, SUM, BYTES, NONE, 0, NEXT);
        DUE.row("SUM of BYTES", p, NEXT, -256);
        DUE.same("SUM gives LONGS", p.is(NEXT, 2), 1);
        due(p, SUM, INTS, NONE, 0, NEXT + 1);
        DUE.row("SUM of INTS", p, NEXT + 1, 2L * Integer.MAX_VALUE);
        due(p, SUM, LONGS, NONE, 0, NEXT + 2);
        DUE.row("SUM of LONGS", p, NEXT + 2, Long.MIN_VALUE + 1);
        due(p, LAY, GRID, INTS, 1, GRID);
        due(p, SUM, GRID, NONE, 0, NEXT + 3);
        DUE.row("SUM of a GRID", p, NEXT + 3, 0, 2L * Integer.MAX_VALUE, 0);
        DUE.same("SUM of a GRID gives LONGS", p.is(NEXT + 3, 2), 1);
        p.set(INTS, 2, 3);
        due(p, SUM, GRID, NONE, 0, NEXT + 4);
        DUE.row("the GRID has the INTS themselves", p, NEXT + 4, 0, 2L * Integer.MAX_VALUE + 3, 0);
        p.row(1, 0);
        due(p, SUM, NEXT + 5, NONE, 0, NEXT + 6);
        DUE.row("SUM of no numbers", p, NEXT + 6, 0);
        p.board(GRID, 0);
        due(p, SUM, NEXT + 7, NONE, 0, NEXT + 8);
        DUE.row("SUM of a GRID without PLACES", p, NEXT + 8);
        allFault(SUM, 0, NULL, NONE);
        allFault(SUM, 0, CAST, WIRE, LIVE, CABLE, LIVE_CABLE, PLUGS, LOOM, LIVE_LOOM);
    }

    private static void widths() {
        LoomPanel p = Panels.ofEachForm();
        p.set(BYTES, 0, -1);
        p.set(BYTES, 2, 127);
        p.set(INTS, 0, 0x12345680);
        p.set(INTS, 1, -2);
        p.set(LONGS, 0, 0x1F0000000L);
        p.set(LONGS, 2, -5);
        due(p, WIDEN, BYTES, NONE, 0, NEXT);
        DUE.row("WIDEN of BYTES", p, NEXT, -1, 0, 127);
        DUE.same("it is INTS", p.is(NEXT, 1), 1);
        due(p, WIDEN, INTS, NONE, 0, NEXT + 1);
        DUE.row("WIDEN of INTS", p, NEXT + 1, 0x12345680, -2, 0);
        DUE.same("it is LONGS", p.is(NEXT + 1, 2), 1);
        due(p, NARROW, LONGS, NONE, 0, NEXT + 2);
        DUE.row("NARROW of LONGS", p, NEXT + 2, 0xF0000000, 0, -5);
        DUE.same("it is INTS", p.is(NEXT + 2, 1), 1);
        due(p, NARROW, INTS, NONE, 0, NEXT + 3);
        DUE.row("NARROW of INTS", p, NEXT + 3, -128, -2, 0);
        DUE.same("it is BYTES", p.is(NEXT + 3, 0), 1);
        DUE.row("x stays", p, INTS, 0x12345680, -2, 0);
        allFault(WIDEN, 0, NULL, NONE);
        allFault(NARROW, 0, NULL, NONE);
        int[] others = {GRID, WIRE, LIVE, CABLE, LIVE_CABLE, PLUGS, LOOM, LIVE_LOOM};
        allFault(WIDEN, 0, CAST, others);
        allFault(NARROW, 0, CAST, others);
        allFault(WIDEN, 0, CAST, LONGS);
        allFault(NARROW, 0, CAST, BYTES);
    }

    private static void taps() {
        LoomPanel p = Panels.ofEachForm();
        int[] boards = {GRID, CABLE, LIVE_CABLE, PLUGS, LOOM, LIVE_LOOM};
        int[] fitting = {INTS, WIRE, LIVE, LIVE, CABLE, LIVE_CABLE};
        for (int b = 0; b < boards.length; b++) {
            due(p, LAY, boards[b], fitting[b], 2, boards[b]);
            due(p, TAP, boards[b], NONE, 2, fitting[b]);
        }
        DUE.same("TAP makes nothing", p.count(0), NEXT);
        for (int n = 0; n < 3; n++) {
            allFault(TAP, n, NULL, boards);
        }
        for (int n : new int[] {-1, 3, 8, Integer.MIN_VALUE, Integer.MAX_VALUE}) {
            allFault(TAP, n, INDEX, boards);
            allFault(TAP, n, NULL, NONE);
            allFault(TAP, n, CAST, BYTES, INTS, LONGS, WIRE, LIVE);
        }
    }

    private static void lays() {
        // What LAY answers for PLACE 0, by x (NONE first, then the forms) and y (likewise).
        int c = CAST, s = STORE, u = NULL;
        int[][] want = {
            {u, c, c, c, c, u, u, c, c, c, c, c},
            {c, c, c, c, c, c, c, c, c, c, c, c},
            {c, c, c, c, c, c, c, c, c, c, c, c},
            {c, c, c, c, c, c, c, c, c, c, c, c},
            {3, c, 3, c, c, c, c, c, c, c, c, c},
            {c, c, c, c, c, c, c, c, c, c, c, c},
            {c, c, c, c, c, c, c, c, c, c, c, c},
            {6, c, c, c, c, 6, 6, c, c, c, c, c},
            {7, c, c, c, c, s, 7, c, c, c, c, c},
            {8, c, c, c, c, c, 8, c, c, c, c, c},
            {9, c, c, c, c, c, c, 9, 9, c, c, c},
            {10, c, c, c, c, c, c, s, 10, c, c, c},
        };
        for (int x = NONE; x <= LIVE_LOOM; x++) {
            LoomPanel p = Panels.ofEachForm();
            for (int y = NONE; y <= LIVE_LOOM; y++) {
                int due = want[x + 1][y + 1];
                due(p, LAY, x, y, 0, due);
                if (due >= 0) {
                    due(p, TAP, x, NONE, 0, y == NONE ? NULL : y);
                }
                // INDEX comes behind CAST and NULL, but ahead of STORE.
                int outside = due >= 0 || due == STORE ? INDEX : due;
                due(p, LAY, x, y, 3, outside);
                due(p, LAY, x, y, -1, outside);
                due(p, LAY, x, y, Integer.MAX_VALUE, outside);
            }
            DUE.same("LAY makes nothing", p.count(0), NEXT);
        }
    }

    private static void laysStore() {
        LoomPanel p = Panels.ofEachForm();
        due(p, LAY, LIVE_CABLE, LIVE, 1, LIVE_CABLE);
        due(p, LAY, LIVE_CABLE, WIRE, 1, STORE);
        due(p, TAP, LIVE_CABLE, NONE, 1, LIVE);
        due(p, TAP, LIVE_CABLE, NONE, 0, NULL);
        due(p, LAY, LIVE_CABLE, NONE, 1, LIVE_CABLE);
        due(p, TAP, LIVE_CABLE, NONE, 1, NULL);
        due(p, LAY, CABLE, LIVE, 2, CABLE);
        due(p, LAY, CABLE, WIRE, 2, CABLE);
        due(p, TAP, CABLE, NONE, 2, WIRE);
    }

    private static void levels() {
        LoomPanel p = Panels.ofEachForm();
        p.act(LAY, CABLE, WIRE, 0);
        p.act(LAY, CABLE, LIVE, 2);
        p.act(LAY, LIVE_CABLE, LIVE, 1);
        p.act(LAY, PLUGS, LIVE, 2);
        due(p, LEVELS, CABLE, NONE, 0, NEXT);
        DUE.row("LEVELS of a CABLE", p, NEXT, 5, 0, 7);
        due(p, LEVELS, LIVE_CABLE, NONE, 0, NEXT + 1);
        DUE.row("LEVELS of a LIVE CABLE", p, NEXT + 1, 0, 7, 0);
        due(p, LEVELS, PLUGS, NONE, 0, NEXT + 2);
        DUE.row("LEVELS of PLUGS", p, NEXT + 2, 0, 0, 7);
        DUE.same("LEVELS are INTS", p.is(NEXT + 2, 1), 1);
        allFault(LEVELS, 0, NULL, NONE);
        allFault(LEVELS, 0, CAST, BYTES, INTS, LONGS, GRID, WIRE, LIVE, LOOM, LIVE_LOOM);
    }

    private static void drives() {
        LoomPanel p = Panels.ofEachForm();
        p.set(INTS, 0, Integer.MIN_VALUE);
        p.set(INTS, 2, 8);
        due(p, DRIVE, INTS, NONE, 0, NEXT + 3);
        DUE.same("DRIVE by 0 gives a CABLE", p.views(NEXT + 3), 1 << CABLE);
        due(p, DRIVE, INTS, NONE, -4, NEXT + 7);
        DUE.same("DRIVE by -4 gives a LIVE CABLE", p.is(NEXT + 7, LIVE_CABLE), 1);
        long[] level = {Integer.MIN_VALUE, 0, 8};
        for (int i = 0; i < 3; i++) {
            due(p, TAP, NEXT + 3, NONE, i, NEXT + i);
            due(p, TAP, NEXT + 7, NONE, i, NEXT + 4 + i);
            DUE.same("a WIRE", p.views(NEXT + i), 1 << WIRE);
            DUE.same("a LIVE", p.is(NEXT + 4 + i, LIVE), 1);
            DUE.same("the WIRE's LEVEL", p.number(NEXT + i, 0), level[i]);
            DUE.same("the LIVE's LEVEL", p.number(NEXT + 4 + i, 0), level[i]);
        }
        DUE.same("eight in all", p.count(0), NEXT + 8);
        p.row(1, 0);
        due(p, DRIVE, NEXT + 8, NONE, 1, NEXT + 9);
        DUE.same("DRIVE of no numbers", p.size(NEXT + 9), 0);
        allFault(DRIVE, 1, NULL, NONE);
        allFault(DRIVE, 0, CAST, BYTES, LONGS, GRID, WIRE, LIVE, CABLE, LIVE_CABLE, PLUGS, LOOM,
                LIVE_LOOM);
    }

    private static void pairs() {
        int[] live = {0, 1, -1, Integer.MIN_VALUE};
        for (int n : live) {
            LoomPanel p = Panels.ofEachForm();
            int made = NEXT;
            for (int x = NONE; x <= LIVE_LOOM; x++) {
                for (int y = NONE; y <= LIVE_LOOM; y++) {
                    boolean xFits = x == LIVE_CABLE || n == 0 && x == CABLE;
                    boolean yFits = y == LIVE_CABLE || n == 0 && y == CABLE;
                    boolean cast = !xFits && x != NONE || !yFits && y != NONE;
                    int want = cast ? CAST : x == NONE || y == NONE ? NULL : made;
                    due(p, PAIR, x, y, n, want);
                    if (want == made) {
                        DUE.same("a (LIVE) LOOM", p.views(made),
                                n == 0 ? 1 << LOOM : 1 << LOOM | 1 << LIVE_LOOM);
                        DUE.same("of two PLACES", p.size(made), 2);
                        due(p, TAP, made, NONE, 0, x);
                        due(p, TAP, made, NONE, 1, y);
                        made++;
                    }
                }
            }
            DUE.same("LOOMS", made - NEXT, n == 0 ? 4 : 1);
        }
    }

    private static void powers() {
        LoomPanel p = Panels.ofEachForm();
        due(p, POWER, LIVE, NONE, 0, NEXT);
        DUE.row("POWER of a LIVE", p, NEXT, 21);
        DUE.same("POWER gives INTS", p.is(NEXT, 1), 1);
        p.wire(true, Integer.MAX_VALUE);
        due(p, POWER, NEXT + 1, NONE, 0, NEXT + 2);
        DUE.row("POWER wraps", p, NEXT + 2, Integer.MAX_VALUE - 2);
        p.act(LAY, PLUGS, LIVE, 0);
        p.act(LAY, PLUGS, NEXT + 1, 2);
        due(p, POWER, PLUGS, NONE, 0, NEXT + 3);
        DUE.row("POWER of PLUGS", p, NEXT + 3, 21, 0, Integer.MAX_VALUE - 2);
        p.act(LAY, LIVE_CABLE, LIVE, 1);
        due(p, POWER, LIVE_CABLE, NONE, 0, NEXT + 4);
        DUE.row("POWER of a LIVE CABLE", p, NEXT + 4, 0, 21, 0);
        allFault(POWER, 0, NULL, NONE);
        allFault(POWER, 0, CAST, BYTES, INTS, LONGS, GRID, WIRE, CABLE, LOOM, LIVE_LOOM);
    }

    private static void joins() {
        for (int x = NONE; x <= LIVE_LOOM; x++) {
            LoomPanel p = Panels.ofEachForm();
            int made = NEXT;
            boolean xCable = x == CABLE || x == LIVE_CABLE;
            boolean xRow = x >= BYTES && x <= LONGS;
            for (int y = NONE; y <= LIVE_LOOM; y++) {
                boolean yFits = y == NONE || (xRow ? y == x : y == CABLE || y == LIVE_CABLE);
                boolean cast = x != NONE && !xRow && !xCable || !yFits;
                int want = cast ? CAST : x == NONE || y == NONE ? NULL : made;
                due(p, JOIN, x, y, 0, want);
                if (want == made) {
                    DUE.same("of x's FORM", p.views(made), p.views(x));
                    DUE.same("of all places", p.size(made), 6);
                    made++;
                }
            }
        }
        LoomPanel p = new LoomPanel();
        for (int form = 0; form <= 2; form++) {
            int x = p.row(form, 3), y = p.row(form, 5), z = p.row(form, 6);
            p.set(x, 0, 1);
            p.set(x, 2, -3);
            p.set(y, 0, 4);
            p.set(y, 4, 8);
            int joined = p.act(JOIN, x, y, 0);
            DUE.row("JOIN of 3 and 5", p, joined, 1, 0, -3, 4, 0, 0, 0, 8);
            int turned = p.act(JOIN, y, x, 0);
            DUE.row("JOIN of 5 and 3", p, turned, 4, 0, 0, 0, 8, 1, 0, -3);
            int twice = p.act(JOIN, x, x, 0);
            DUE.row("JOIN with itself", p, twice, 1, 0, -3, 1, 0, -3);
            due(p, JOIN, x, z, 0, SIZE);
            due(p, JOIN, z, x, 0, SIZE);
            due(p, JOIN, joined, joined, 0, SIZE);
        }
    }

    private static void joinedCables() {
        LoomPanel p = Panels.ofEachForm();
        p.act(LAY, CABLE, WIRE, 0);
        p.act(LAY, CABLE, LIVE, 2);
        p.act(LAY, LIVE_CABLE, LIVE, 1);
        due(p, JOIN, CABLE, LIVE_CABLE, 0, NEXT);
        DUE.same("JOIN of a CABLE gives a CABLE", p.views(NEXT), 1 << CABLE);
        int[] want = {WIRE, NULL, LIVE, NULL, LIVE, NULL};
        for (int i = 0; i < 6; i++) {
            due(p, TAP, NEXT, NONE, i, want[i]);
        }
        due(p, JOIN, LIVE_CABLE, CABLE, 0, STORE);
        DUE.same("STORE makes nothing", p.count(0), NEXT + 1);
        p.act(LAY, CABLE, NONE, 0);
        due(p, JOIN, LIVE_CABLE, CABLE, 0, NEXT + 1);
        DUE.same("JOIN of a LIVE CABLE gives one", p.is(NEXT + 1, LIVE_CABLE), 1);
        int[] lives = {NULL, LIVE, NULL, NULL, NULL, LIVE};
        for (int i = 0; i < 6; i++) {
            due(p, TAP, NEXT + 1, NONE, i, lives[i]);
        }
        p.board(CABLE, 6);
        p.act(LAY, NEXT + 2, WIRE, 5);
        due(p, JOIN, LIVE_CABLE, NEXT + 2, 0, SIZE);
    }

    private static void copies() {
        LoomPanel p = Panels.ofEachForm();
        p.set(BYTES, 1, 6);
        p.set(INTS, 1, 66666);
        p.set(LONGS, 1, 6666666666L);
        int[] boards = {GRID, CABLE, LIVE_CABLE, PLUGS, LOOM, LIVE_LOOM};
        int[] fitting = {INTS, WIRE, LIVE, LIVE, CABLE, LIVE_CABLE};
        for (int b = 0; b < boards.length; b++) {
            p.act(LAY, boards[b], fitting[b], 1);
        }
        for (int row = BYTES; row <= LONGS; row++) {
            due(p, COPY, row, NONE, 0, NEXT + row);
            DUE.row("COPY", p, NEXT + row, 0, p.number(row, 1), 0);
            DUE.same("of the FORM", p.views(NEXT + row), p.views(row));
            long before = p.number(NEXT + row, 1);
            p.set(row, 1, 1);
            DUE.same("a COPY stays", p.number(NEXT + row, 1), before);
        }
        for (int b = 0; b < boards.length; b++) {
            int copied = NEXT + 3 + b;
            due(p, COPY, boards[b], NONE, 0, copied);
            DUE.same("of the FORM", p.views(copied), p.views(boards[b]));
            DUE.same("of the size", p.size(copied), 3);
            due(p, TAP, copied, NONE, 0, NULL);
            due(p, TAP, copied, NONE, 1, fitting[b]);
            p.act(LAY, boards[b], NONE, 1);
            due(p, TAP, copied, NONE, 1, fitting[b]);
        }
        allFault(COPY, 0, NULL, NONE);
        allFault(COPY, 0, CAST, WIRE, LIVE);
    }

    private static void news() {
        LoomPanel p = new LoomPanel();
        for (int n = 0; n <= 8; n++) {
            due(p, NEW, NONE, NONE, n, n);
            DUE.same("NEW is a CABLE", p.views(n), 1 << CABLE);
            DUE.same("NEW of n PLACES", p.size(n), n);
        }
        due(p, NEW, 3, 4, 2, 9);
        for (int n : new int[] {-1, 9, Integer.MIN_VALUE, Integer.MAX_VALUE}) {
            allFault(NEW, n, SIZE, NONE, BYTES, LIVE, LIVE_LOOM);
        }
    }

    private static void checks() {
        LoomPanel p = Panels.ofEachForm();
        for (int x = BYTES; x <= LIVE_LOOM; x++) {
            for (int n = 0; n <= 11; n++) {
                due(p, CHECK, x, NONE, n, p.is(x, n) == 1 ? x : CAST);
                due(p, CHECK, NONE, NONE, n, NONE);
            }
        }
        for (int n : new int[] {-1, 12, 32, 36, Integer.MIN_VALUE, Integer.MAX_VALUE}) {
            allFault(CHECK, n, CAST, NONE, BYTES, WIRE, LIVE, LIVE_LOOM);
        }
        DUE.same("CHECK makes nothing", p.count(0), NEXT);
    }

    private static void full() {
        LoomPanel p = Panels.ofEachForm();
        for (int made = NEXT; made < 59; made++) {
            p.wire(false, 0);
        }
        due(p, NEW, NONE, NONE, 0, 59);
        DUE.same("60 VALUES", p.count(0), 60);
        int faults = 0;
        for (int act = SUM; act <= NEW; act++) {
            if (act != TAP && act != LAY) {
                for (int x = NONE; x <= LIVE_LOOM; x++) {
                    due(p, act, x, NONE, 9, FULL);
                    faults++;
                }
            }
        }
        DUE.same("FULL counts", p.count(1), faults);
        DUE.same("FULL is the latest", p.count(2), 6);
        due(p, LAY, CABLE, WIRE, 0, CABLE);
        due(p, TAP, CABLE, NONE, 0, WIRE);
        due(p, CHECK, CABLE, NONE, CABLE, CABLE);
        due(p, TAP, NONE, NONE, 0, NULL);
        due(p, LAY, NONE, NONE, 0, NULL);
        due(p, CHECK, CABLE, NONE, WIRE, CAST);
        due(p, SUM, 60, NONE, 0, BAD);
        DUE.same("still 60", p.count(0), 60);
    }

    private static void fullDrive() {
        LoomPanel p = Panels.ofEachForm();
        for (int made = NEXT; made < 56; made++) {
            p.wire(false, 0);
        }
        LoomPanel q = Panels.ofEachForm();
        for (int made = NEXT; made < 57; made++) {
            q.wire(false, 0);
        }
        due(p, DRIVE, INTS, NONE, 0, 59);
        DUE.same("just 60", p.count(0), 60);
        due(q, DRIVE, INTS, NONE, 0, FULL);
        DUE.same("FULL makes nothing", q.count(0), 57);
        due(q, DRIVE, LONGS, NONE, 0, CAST);
        due(q, DRIVE, NONE, NONE, 0, NULL);
        due(q, NEW, NONE, NONE, 8, 57);
        due(q, LEVELS, NONE, NONE, 8, NULL);
        due(q, NEW, NONE, NONE, 8, 58);
        due(q, NEW, NONE, NONE, 8, 59);
        due(q, NEW, NONE, NONE, 9, FULL);
    }
}
