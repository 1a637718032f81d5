/** The sentences on VALUES, FORMS, VIEWS and PLACES, and of promises 1 to 6 and 12 to 14. */
public final class ValueBoundsTest implements Names {
    private static final Due DUE = new Due("ValueBoundsTest");
    private static final int[] BOARDS = {GRID, CABLE, LIVE_CABLE, PLUGS, LOOM, LIVE_LOOM};
    private static final int[] FITTING = {INTS, WIRE, LIVE, LIVE, CABLE, LIVE_CABLE};
    private static final int[] NO_LENGTHS = {LEAST, -9, -1, 9, 10, 256, MOST};
    /** What is no VALUE in a panel of eleven. */
    private static final int[] NO_VALUES = {LEAST, -4, -3, ITSELF, NONE, NEXT, 59, 60, MOST};

    public static void main(String[] args) {
        sixtyValues();
        numberedInOrder();
        rowsOfEachWidth();
        numbersAreZeroAtFirst();
        wiresHaveALevel();
        boardsOfEachLength();
        viewsOfForms();
        whatAPlaceTakes();
        newObject();
        row();
        board();
        wire();
        set();
        number();
        is();
        views();
        size();
        severalRefusals();
        DUE.end();
    }

    private static void sixtyValues() {
        DUE.says("(60 at most) have a FORM");
        for (int form = BYTES; form <= LIVE_LOOM; form++) {
            LoomPanel p = new LoomPanel();
            for (int x = 0; x < 60; x++) {
                DUE.same("form " + form + ", value " + x, Panels.make(p, form, 8), x);
            }
            DUE.same("form " + form + ", a 61st", Panels.make(p, form, 8), ROOM);
            DUE.same("count(0)", p.count(0), 60);
            DUE.same("is(59, " + form + ")", p.is(59, form), 1);
            DUE.same("size(60)", p.size(60), BAD);
        }
    }

    private static void numberedInOrder() {
        DUE.says("VALUES 0, 1, ..");
        LoomPanel p = new LoomPanel();
        DUE.same("a row", p.row(INTS, 2), 0);
        DUE.same("a wire", p.wire(true, 1), 1);
        DUE.same("a BAD row", p.row(INTS, 9), BAD);
        DUE.same("a board", p.board(PLUGS, 2), 2);
        DUE.act(p, NEW, NONE, NONE, 9, SIZE);
        DUE.act(p, NEW, NONE, NONE, 8, 3);
        DUE.act(p, DRIVE, 0, NONE, 0, 6);
        DUE.same("a wire", p.wire(false, 1), 7);
    }

    private static void rowsOfEachWidth() {
        DUE.says("rows of 0 to 8 numbers (of 8 bits with a sign, of 32, of 64; 0 at first)");
        for (int form = BYTES; form <= LONGS; form++) {
            int bits = 8 << (form == LONGS ? 3 : form * 2);
            long most = -1L >>> 65 - bits;
            LoomPanel p = new LoomPanel();
            for (int n = 0; n <= 8; n++) {
                DUE.same("row of " + n, p.row(form, n), n);
                DUE.same("size", p.size(n), n);
                DUE.same("number behind the last", p.number(n, n), 0);
                DUE.same("set behind the last", p.set(n, n, 1), BAD);
            }
            long[] at = {most, -most - 1, most + 1, -most - 2, 2 * most + 1, 2 * most + 2, -1, 1};
            long[] due = {most, -most - 1, -most - 1, most, -1, 0, -1, 1};
            for (int i = 0; i < 8; i++) {
                DUE.same("set place " + i, p.set(8, i, at[i]), 1);
            }
            DUE.row("set of a row of " + bits + " bits", p, 8, due);
            DUE.row("set of another row", p, 7, 0, 0, 0, 0, 0, 0, 0);
        }
    }

    private static void numbersAreZeroAtFirst() {
        DUE.says("0 at first");
        LoomPanel p = new LoomPanel();
        for (int form = BYTES; form <= LONGS; form++) {
            DUE.row("row", p, p.row(form, 8), 0, 0, 0, 0, 0, 0, 0, 0);
            for (int i = 0; i < 8; i++) {
                p.set(form, i, -1);
            }
        }
        p.clear();
        for (int form = BYTES; form <= LONGS; form++) {
            DUE.row("row after clear()", p, p.row(form, 8), 0, 0, 0, 0, 0, 0, 0, 0);
        }
    }

    private static void wiresHaveALevel() {
        DUE.says("4 WIRE, 5 LIVE: have a LEVEL (an int)");
        LoomPanel p = new LoomPanel();
        for (int level : new int[] {LEAST, LEAST + 1, -1, 0, 1, MOST}) {
            DUE.same("the WIRE's LEVEL", p.number(p.wire(false, level), 0), level);
            DUE.same("the LIVE's LEVEL", p.number(p.wire(true, level), 0), level);
        }
    }

    private static void boardsOfEachLength() {
        String[] sentences = {"3 GRID: 0 to 8 PLACES, in each INTS or none",
            "6 CABLE, 7 LIVE CABLE, 8 PLUGS: 0 to 8 PLACES, in each something or none", "",  "",
            "9 LOOM, 10 LIVE LOOM: likewise", ""};
        for (int b = 0; b < BOARDS.length; b++) {
            if (!sentences[b].isEmpty()) {
                DUE.says(sentences[b]);
            }
            LoomPanel p = Panels.ofEachForm();
            for (int n = 0; n <= 8; n++) {
                int x = p.board(BOARDS[b], n);
                DUE.same("board of " + n, x, NEXT + n);
                DUE.same("size", p.size(x), n);
                DUE.act(p, TAP, x, NONE, n, INDEX);
                DUE.act(p, TAP, x, NONE, -1, INDEX);
                DUE.act(p, LAY, x, FITTING[b], n, INDEX);
                DUE.act(p, LAY, x, NONE, -1, INDEX);
                if (n > 0) {
                    DUE.act(p, TAP, x, NONE, n - 1, NULL);
                    DUE.act(p, LAY, x, FITTING[b], n - 1, x);
                    DUE.act(p, TAP, x, NONE, n - 1, FITTING[b]);
                    DUE.act(p, TAP, x, NONE, 0, n == 1 ? FITTING[b] : NULL);
                }
            }
        }
    }

    private static void viewsOfForms() {
        LoomPanel p = Panels.ofEachForm();
        DUE.says("A VIEW is a FORM, or 11, PLUG");
        for (int x = BYTES; x <= LIVE_LOOM; x++) {
            DUE.same("is(" + x + ", 11)", p.is(x, PLUG), x == LIVE ? 1 : 0);
            DUE.same("is(" + x + ", 12)", p.is(x, 12), BAD);
            DUE.same("is(" + x + ", -1)", p.is(x, -1), BAD);
        }
        DUE.says("A VALUE IS what its FORM is");
        for (int x = BYTES; x <= LIVE_LOOM; x++) {
            DUE.same("is(" + x + ", " + x + ")", p.is(x, x), 1);
            if (x != LIVE && x != LIVE_CABLE && x != LIVE_LOOM) {
                DUE.same("views(" + x + "), no other", p.views(x), 1 << x);
            }
        }
        DUE.says("a LIVE is a WIRE, a PLUG, too");
        DUE.same("views(LIVE)", p.views(LIVE), 1 << LIVE | 1 << WIRE | 1 << PLUG);
        DUE.same("is(WIRE, LIVE)", p.is(WIRE, LIVE), 0);
        DUE.same("is(WIRE, PLUG)", p.is(WIRE, PLUG), 0);
        DUE.says("a LIVE CABLE a CABLE, PLUGS, too");
        DUE.same("views(LIVE CABLE)", p.views(LIVE_CABLE), 1 << LIVE_CABLE | 1 << CABLE | 1 << PLUGS);
        DUE.same("is(CABLE, LIVE CABLE)", p.is(CABLE, LIVE_CABLE), 0);
        DUE.same("is(CABLE, PLUGS)", p.is(CABLE, PLUGS), 0);
        DUE.same("is(PLUGS, CABLE)", p.is(PLUGS, CABLE), 0);
        DUE.same("is(PLUGS, LIVE CABLE)", p.is(PLUGS, LIVE_CABLE), 0);
        DUE.says("a LIVE LOOM a LOOM, too");
        DUE.same("views(LIVE LOOM)", p.views(LIVE_LOOM), 1 << LIVE_LOOM | 1 << LOOM);
        DUE.same("is(LOOM, LIVE LOOM)", p.is(LOOM, LIVE_LOOM), 0);
    }

    private static void whatAPlaceTakes() {
        String[] sentences = {"of a GRID what IS INTS", "of a CABLE a WIRE", "of a LIVE CABLE a LIVE",
            "of PLUGS a PLUG", "of a LOOM a CABLE", "of a LIVE LOOM a LIVE CABLE"};
        int[] taken = {INTS, WIRE, LIVE, PLUG, CABLE, LIVE_CABLE};
        for (int b = 0; b < BOARDS.length; b++) {
            DUE.says(sentences[b]);
            LoomPanel p = Panels.ofEachForm();
            for (int y = BYTES; y <= LIVE_LOOM; y++) {
                int answer = p.act(LAY, BOARDS[b], y, 2);
                boolean takes = p.is(y, taken[b]) == 1;
                DUE.holds("LAY of " + y + " answered " + answer, answer == BOARDS[b] == takes);
                DUE.act(p, TAP, BOARDS[b], NONE, 2, takes ? y : NULL);
                p.act(LAY, BOARDS[b], NONE, 2);
            }
        }
        DUE.says("none any");
        for (int b = 0; b < BOARDS.length; b++) {
            LoomPanel p = Panels.inUse();
            DUE.act(p, LAY, BOARDS[b], NONE, 1, BOARDS[b]);
            DUE.act(p, TAP, BOARDS[b], NONE, 1, NULL);
            DUE.act(p, LAY, BOARDS[b], NONE, 1, BOARDS[b]);
        }
    }

    private static void newObject() {
        DUE.says("No VALUES; PATCHES without STEPS.");
        LoomPanel p = new LoomPanel();
        DUE.same("count(0)", p.count(0), 0);
        DUE.same("size(0)", p.size(0), BAD);
        DUE.same("views(0)", p.views(0), BAD);
        DUE.same("act of 0", p.act(CHECK, 0, NONE, 0), BAD);
        for (int patch = 0; patch < 6; patch++) {
            DUE.same("play(" + patch + ", NONE)", p.play(patch, NONE), NONE);
            DUE.same("step of " + patch, p.step(patch, NEW, NONE, 0), 1);
        }
        DUE.same("another new one has none", new LoomPanel().empty(0), 0);
        DUE.same("clear()", new LoomPanel().clear(), 0);
    }

    private static void row() {
        DUE.says("BYTES, INTS, LONGS (FORM 0 to 2) of n places: the number.");
        for (int form = BYTES; form <= LONGS; form++) {
            LoomPanel p = new LoomPanel();
            DUE.same("row(" + form + ", 0)", p.row(form, 0), 0);
            DUE.same("row(" + form + ", 8)", p.row(form, 8), 1);
            DUE.same("views", p.views(1), 1 << form);
        }
        DUE.says("BAD: FORM, n not 0 to 8; ROOM: 60 VALUES.");
        for (int form : new int[] {LEAST, -1, 3, 4, 6, 8, 11, MOST}) {
            DUE.refused("row(" + form + ", 1)", Panels::inUse, p -> p.row(form, 1), BAD);
        }
        for (int n : NO_LENGTHS) {
            for (int form = BYTES; form <= LONGS; form++) {
                int of = form;
                DUE.refused("row(" + form + ", " + n + ")", Panels::inUse, p -> p.row(of, n), BAD);
            }
        }
        for (int form = BYTES; form <= LONGS; form++) {
            LoomPanel p = Panels.of(59);
            DUE.same("a 60th", p.row(form, 8), 59);
            DUE.same("a 61st", p.row(form, 0), ROOM);
            int of = form;
            DUE.refused("row(" + form + ", 0) of 60", Panels::full, q -> q.row(of, 0), ROOM);
        }
    }

    private static void board() {
        DUE.says("A GRID, LIVE CABLE, PLUGS, LOOM, LIVE LOOM, CABLE (FORM 3, 6 to 10) of n PLACES: "
                + "the number. BAD; ROOM.");
        for (int form : BOARDS) {
            LoomPanel p = Panels.of(59);
            DUE.same("a 60th", p.board(form, 8), 59);
            DUE.same("is(59, " + form + ")", p.is(59, form), 1);
            DUE.same("a 61st", p.board(form, 0), ROOM);
            DUE.refused("board(" + form + ", 0) of 60", Panels::full, q -> q.board(form, 0), ROOM);
            for (int n : NO_LENGTHS) {
                DUE.refused("board(" + form + ", " + n + ")", Panels::inUse,
                        q -> q.board(form, n), BAD);
            }
        }
        for (int form : new int[] {LEAST, -1, 0, 1, 2, 4, 5, 11, 12, MOST}) {
            DUE.refused("board(" + form + ", 1)", Panels::inUse, p -> p.board(form, 1), BAD);
        }
    }

    private static void wire() {
        DUE.says("A WIRE (live: a LIVE) with a LEVEL: the number. ROOM.");
        LoomPanel p = Panels.of(58);
        DUE.same("a 59th", p.wire(false, 3), 58);
        DUE.same("a 60th", p.wire(true, 4), 59);
        DUE.same("views(58)", p.views(58), 1 << WIRE);
        DUE.same("views(59)", p.views(59), 1 << WIRE | 1 << LIVE | 1 << PLUG);
        for (boolean live : new boolean[] {false, true}) {
            DUE.refused("wire(" + live + ", 9) of 60", Panels::full, q -> q.wire(live, 9), ROOM);
        }
    }

    private static void set() {
        DUE.says("A number of BYTES, INTS, LONGS becomes v (its lowest bits): 1.");
        LoomPanel p = Panels.ofEachForm();
        long[] vs = {0x7FFFFFFF7FFFFF7FL, 0x80000000_80000080L, Long.MIN_VALUE};
        for (int row = BYTES; row <= LONGS; row++) {
            for (int i = 0; i < 3; i++) {
                DUE.same("set(" + row + ", " + i + ", ..)", p.set(row, i, vs[i]), 1);
            }
        }
        DUE.row("set of BYTES", p, BYTES, 127, -128, 0);
        DUE.row("set of INTS", p, INTS, 0x7FFFFF7F, 0x80000080, 0);
        DUE.row("set of LONGS", p, LONGS, vs);
        DUE.says("BAD: no such VALUE, none of these, no such place.");
        for (int x : NO_VALUES) {
            DUE.refused("set(" + x + ", 0, 9)", Panels::inUse, q -> q.set(x, 0, 9), BAD);
        }
        for (int x = GRID; x <= LIVE_LOOM; x++) {
            for (int i = 0; i < 3; i++) {
                int of = x, at = i;
                DUE.refused("set(" + x + ", " + i + ", 9)", Panels::inUse,
                        q -> q.set(of, at, 9), BAD);
            }
        }
        for (int i : new int[] {LEAST, -1, 3, 8, MOST}) {
            for (int x = BYTES; x <= LONGS; x++) {
                int of = x;
                DUE.refused("set(" + x + ", " + i + ", 9)", Panels::inUse,
                        q -> q.set(of, i, 9), BAD);
            }
        }
        DUE.same("set of a row of none", p.set(p.row(INTS, 0), 0, 1), BAD);
    }

    private static void number() {
        DUE.says("Number i of BYTES, INTS, LONGS; the LEVEL of a WIRE (any i). 0 where there is none "
                + "such.");
        LoomPanel p = Panels.inUse();
        for (int row = BYTES; row <= LONGS; row++) {
            DUE.row("inUse()", p, row, 11 + row, 0, -row);
            for (int i : new int[] {LEAST, -1, 3, 7, 8, MOST}) {
                DUE.same("number(" + row + ", " + i + ")", p.number(row, i), 0);
            }
        }
        for (int i : new int[] {LEAST, -1, 0, 1, 8, MOST}) {
            DUE.same("number(WIRE, " + i + ")", p.number(WIRE, i), 5);
            DUE.same("number(LIVE, " + i + ")", p.number(LIVE, i), 7);
            for (int board : BOARDS) {
                DUE.same("number(" + board + ", " + i + ")", p.number(board, i), 0);
            }
            for (int x : NO_VALUES) {
                DUE.same("number(" + x + ", " + i + ")", p.number(x, i), 0);
            }
        }
        p.clear();
        DUE.same("number(0, 0) after clear()", p.number(0, 0), 0);
        DUE.same("number(WIRE, 0) after clear()", p.number(WIRE, 0), 0);
    }

    private static void is() {
        DUE.says("Whether a VALUE IS a VIEW 0 to 11: 1, 0. BAD.");
        for (int view : new int[] {LEAST, -1, 12, 32, 37, 64, MOST}) {
            DUE.refused("is(LIVE, " + view + ")", Panels::inUse, p -> p.is(LIVE, view), BAD);
        }
        for (int x : NO_VALUES) {
            DUE.refused("is(" + x + ", 0)", Panels::inUse, p -> p.is(x, 0), BAD);
        }
        DUE.same("is(LIVE, PLUG)", Panels.inUse().is(LIVE, PLUG), 1);
        DUE.same("is(LIVE, BYTES)", Panels.inUse().is(LIVE, BYTES), 0);
    }

    private static void views() {
        DUE.says("The VIEWS that a VALUE IS, as bits. BAD.");
        LoomPanel p = Panels.inUse();
        for (int x = BYTES; x <= LIVE_LOOM; x++) {
            int bits = 0;
            for (int view = 0; view <= 11; view++) {
                bits |= p.is(x, view) << view;
            }
            DUE.same("views(" + x + ")", p.views(x), bits);
        }
        for (int x : NO_VALUES) {
            DUE.refused("views(" + x + ")", Panels::inUse, q -> q.views(x), BAD);
        }
    }

    private static void size() {
        DUE.says("How many places a VALUE has (a WIRE 0). BAD.");
        LoomPanel p = new LoomPanel();
        DUE.same("size(WIRE)", p.size(p.wire(false, 8)), 0);
        DUE.same("size(LIVE)", p.size(p.wire(true, 8)), 0);
        for (int n : new int[] {0, 8}) {
            DUE.same("size(row)", p.size(p.row(BYTES, n)), n);
            DUE.same("size(board)", p.size(p.board(LIVE_LOOM, n)), n);
        }
        for (int x : NO_VALUES) {
            DUE.refused("size(" + x + ")", Panels::inUse, q -> q.size(x), BAD);
        }
    }

    private static void severalRefusals() {
        DUE.says("Of several refusals the first here: BAD (a number is not as told; there is no such "
                + "VALUE, PATCH), ROOM; they change nothing.");
        DUE.refused("row(3, 1) of 60", Panels::full, p -> p.row(3, 1), BAD);
        DUE.refused("row(-1, 1) of 60", Panels::full, p -> p.row(-1, 1), BAD);
        DUE.refused("row(0, 9) of 60", Panels::full, p -> p.row(0, 9), BAD);
        DUE.refused("row(0, -1) of 60", Panels::full, p -> p.row(0, -1), BAD);
        DUE.refused("board(5, 1) of 60", Panels::full, p -> p.board(5, 1), BAD);
        DUE.refused("board(11, 1) of 60", Panels::full, p -> p.board(11, 1), BAD);
        DUE.refused("board(6, 9) of 60", Panels::full, p -> p.board(6, 9), BAD);
        DUE.refused("board(6, -1) of 60", Panels::full, p -> p.board(6, -1), BAD);
    }
}
