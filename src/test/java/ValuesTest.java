/** Promises 1 to 6 (a new object, row, board, wire, set, number) and 12 to 14 (is, views, size). */
public final class ValuesTest implements Names {
    private static final Due DUE = new Due("ValuesTest");

    public static void main(String[] args) {
        newObject();
        rows();
        boards();
        wires();
        setting();
        numbers();
        views();
        sizes();
        DUE.end();
    }

    private static void newObject() {
        LoomPanel p = new LoomPanel();
        DUE.same("count(0) of a new one", p.count(0), 0);
        DUE.same("count(1) of a new one", p.count(1), 0);
        DUE.same("count(2) of a new one", p.count(2), 0);
        DUE.same("stopped() of a new one", p.stopped(), NONE);
        for (int patch = 0; patch < 6; patch++) {
            DUE.same("empty(" + patch + ") of a new one", p.empty(patch), 0);
        }
        DUE.same("size(0) of a new one", p.size(0), BAD);
        DUE.same("clear() of a new one", p.clear(), 0);
    }

    private static void rows() {
        LoomPanel p = new LoomPanel();
        for (int form = 0; form <= 2; form++) {
            DUE.same("row(form, 0)", p.row(form, 0), 3 * form);
            DUE.same("row(form, 8)", p.row(form, 8), 3 * form + 1);
            DUE.same("row(form, 5)", p.row(form, 5), 3 * form + 2);
            DUE.row("row(form, 0)", p, 3 * form);
            DUE.row("row(form, 8)", p, 3 * form + 1, 0, 0, 0, 0, 0, 0, 0, 0);
            DUE.same("is(row, form)", p.is(3 * form, form), 1);
            DUE.same("row(form, -1)", p.row(form, -1), BAD);
            DUE.same("row(form, 9)", p.row(form, 9), BAD);
            DUE.same("row(form, least)", p.row(form, Integer.MIN_VALUE), BAD);
            DUE.same("row(form, most)", p.row(form, Integer.MAX_VALUE), BAD);
        }
        for (int form : new int[] {-1, 3, 4, 5, 6, 11, Integer.MIN_VALUE, Integer.MAX_VALUE}) {
            DUE.same("row(" + form + ", 2)", p.row(form, 2), BAD);
        }
        DUE.same("count(0) after BAD rows", p.count(0), 9);
        fill(p);
        DUE.same("row(0, 0) of 60", p.row(0, 0), ROOM);
        DUE.same("row(3, 0) of 60: BAD goes ahead", p.row(3, 0), BAD);
        DUE.same("row(0, 9) of 60: BAD goes ahead", p.row(0, 9), BAD);
        DUE.same("count(0) of 60", p.count(0), 60);
    }

    private static void boards() {
        LoomPanel p = new LoomPanel();
        int made = 0;
        for (int form : new int[] {3, 6, 7, 8, 9, 10}) {
            for (int n : new int[] {0, 3, 8}) {
                DUE.same("board(" + form + ", " + n + ")", p.board(form, n), made);
                DUE.same("size(board)", p.size(made), n);
                DUE.same("is(board, " + form + ")", p.is(made, form), 1);
                for (int i = 0; i < n; i++) {
                    DUE.same("a new PLACE has none", p.act(3, made, NONE, i), -12);
                }
                made++;
            }
            DUE.same("board(form, -1)", p.board(form, -1), BAD);
            DUE.same("board(form, 9)", p.board(form, 9), BAD);
        }
        for (int form : new int[] {-1, 0, 1, 2, 4, 5, 11, Integer.MIN_VALUE, Integer.MAX_VALUE}) {
            DUE.same("board(" + form + ", 2)", p.board(form, 2), BAD);
        }
        DUE.same("count(0) after BAD boards", p.count(0), made);
        fill(p);
        DUE.same("board(3, 0) of 60", p.board(3, 0), ROOM);
        DUE.same("board(4, 0) of 60: BAD goes ahead", p.board(4, 0), BAD);
        DUE.same("board(10, 9) of 60: BAD goes ahead", p.board(10, 9), BAD);
    }

    private static void wires() {
        LoomPanel p = new LoomPanel();
        DUE.same("wire(false, least)", p.wire(false, Integer.MIN_VALUE), 0);
        DUE.same("wire(true, most)", p.wire(true, Integer.MAX_VALUE), 1);
        DUE.same("number(WIRE)", p.number(0, 0), Integer.MIN_VALUE);
        DUE.same("number(LIVE)", p.number(1, 0), Integer.MAX_VALUE);
        DUE.same("is(WIRE, LIVE)", p.is(0, 5), 0);
        DUE.same("is(LIVE, LIVE)", p.is(1, 5), 1);
        fill(p);
        DUE.same("wire(false, 1) of 60", p.wire(false, 1), ROOM);
        DUE.same("wire(true, 1) of 60", p.wire(true, 1), ROOM);
    }

    private static void setting() {
        LoomPanel p = new LoomPanel();
        p.row(0, 3);
        p.row(1, 3);
        p.row(2, 3);
        p.board(3, 3);
        p.wire(false, 4);
        p.wire(true, 4);
        p.board(6, 3);
        for (int x = 0; x <= 2; x++) {
            DUE.same("set(x, 0, ..)", p.set(x, 0, 0x123456789L), 1);
            DUE.same("set(x, 1, ..)", p.set(x, 1, 0x8000000080L), 1);
            DUE.same("set(x, 2, ..)", p.set(x, 2, Long.MIN_VALUE + 0xF0000000L), 1);
            DUE.same("set(x, -1, ..)", p.set(x, -1, 7), BAD);
            DUE.same("set(x, 3, ..)", p.set(x, 3, 7), BAD);
            DUE.same("set(x, most, ..)", p.set(x, Integer.MAX_VALUE, 7), BAD);
        }
        DUE.row("set of BYTES", p, 0, 0xFFFFFF89, -128, 0);
        DUE.row("set of INTS", p, 1, 0x23456789, 0x80, 0xF0000000);
        DUE.row("set of LONGS", p, 2, 0x123456789L, 0x8000000080L, Long.MIN_VALUE + 0xF0000000L);
        for (int x : new int[] {3, 4, 5, 6, 7, -1, -2, Integer.MIN_VALUE, Integer.MAX_VALUE}) {
            DUE.same("set(" + x + ", 0, 7)", p.set(x, 0, 7), BAD);
        }
        DUE.same("the LEVEL stays", p.number(4, 0), 4);
    }

    private static void numbers() {
        LoomPanel p = new LoomPanel();
        p.row(2, 2);
        p.row(2, 2);
        p.set(0, 0, Long.MAX_VALUE);
        p.set(0, 1, Long.MIN_VALUE);
        p.set(1, 0, 6);
        p.wire(false, -5);
        p.wire(true, 9);
        p.board(6, 2);
        p.act(4, 4, 3, 0);
        DUE.row("set of LONGS", p, 0, Long.MAX_VALUE, Long.MIN_VALUE);
        for (int i : new int[] {-1, 2, 8, Integer.MIN_VALUE, Integer.MAX_VALUE}) {
            DUE.same("number(LONGS, " + i + ")", p.number(0, i), 0);
            DUE.same("number(WIRE, " + i + ")", p.number(2, i), -5);
            DUE.same("number(LIVE, " + i + ")", p.number(3, i), 9);
        }
        DUE.same("number(CABLE, 0)", p.number(4, 0), 0);
        DUE.same("number(CABLE, 1), a PLACE with none", p.number(4, 1), 0);
        for (int x : new int[] {5, -1, -2, Integer.MIN_VALUE, Integer.MAX_VALUE}) {
            DUE.same("number(" + x + ", 0)", p.number(x, 0), 0);
        }
    }

    private static void views() {
        LoomPanel p = Panels.ofEachForm();
        int[] bits = {1, 2, 4, 8, 16, 32 + 16 + 2048, 64, 128 + 64 + 256, 256, 512, 1024 + 512};
        for (int x = 0; x < bits.length; x++) {
            DUE.same("views(" + x + ")", p.views(x), bits[x]);
            for (int view = 0; view <= 11; view++) {
                DUE.same("is(" + x + ", " + view + ")", p.is(x, view), bits[x] >> view & 1);
            }
            for (int view : new int[] {-1, 12, 32, 36, Integer.MIN_VALUE, Integer.MAX_VALUE}) {
                DUE.same("is(" + x + ", " + view + ")", p.is(x, view), BAD);
            }
        }
        for (int x : new int[] {-1, -2, 11, Integer.MIN_VALUE, Integer.MAX_VALUE}) {
            DUE.same("is(" + x + ", 0)", p.is(x, 0), BAD);
            DUE.same("views(" + x + ")", p.views(x), BAD);
        }
    }

    private static void sizes() {
        LoomPanel p = Panels.ofEachForm();
        for (int x = 0; x <= 10; x++) {
            DUE.same("size(" + x + ")", p.size(x), x == 4 || x == 5 ? 0 : 3);
        }
        for (int x : new int[] {-1, -2, 11, Integer.MIN_VALUE, Integer.MAX_VALUE}) {
            DUE.same("size(" + x + ")", p.size(x), BAD);
        }
    }

    private static void fill(LoomPanel p) {
        for (int made = p.count(0); made < 60; made++) {
            DUE.same("a row before there are 60", p.row(0, 0), made);
        }
    }
}
