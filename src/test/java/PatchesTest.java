/** Promises 8 to 11 (step, play, stopped, empty), 15 (count) and 16 (clear). */
public final class PatchesTest implements Names {
    private static final Due DUE = new Due("PatchesTest");

    public static void main(String[] args) {
        stepping();
        playing();
        playingWithItself();
        stopping();
        stoppingWhenFull();
        emptying();
        counting();
        clearing();
        DUE.end();
    }

    private static void stepping() {
        LoomPanel p = new LoomPanel();
        p.row(0, 1);
        for (int patch : new int[] {-1, 6, Integer.MIN_VALUE, Integer.MAX_VALUE}) {
            DUE.same("step(" + patch + ", ..)", p.step(patch, 0, NONE, 0), BAD);
        }
        for (int act : new int[] {-1, 13, Integer.MIN_VALUE, Integer.MAX_VALUE}) {
            DUE.same("step(0, " + act + ", ..)", p.step(0, act, NONE, 0), BAD);
        }
        for (int y : new int[] {1, -3, Integer.MIN_VALUE, Integer.MAX_VALUE}) {
            DUE.same("step(0, 0, " + y + ", 0)", p.step(0, 0, y, 0), BAD);
        }
        int[] ys = {0, NONE, ITSELF};
        for (int k = 0; k < 12; k++) {
            DUE.same("step " + k, p.step(5, k, ys[k % 3], Integer.MIN_VALUE + k), k + 1);
        }
        DUE.same("a 13th step", p.step(5, 12, NONE, 0), ROOM);
        DUE.same("a BAD act goes ahead of ROOM", p.step(5, 13, NONE, 0), BAD);
        DUE.same("a BAD y goes ahead of ROOM", p.step(5, 12, 1, 0), BAD);
        DUE.same("act 12 in another patch", p.step(0, 12, NONE, 0), 1);
        DUE.same("empty of the full one", p.empty(5), 12);
        DUE.same("empty of the other one", p.empty(0), 1);
    }

    private static void playing() {
        LoomPanel p = new LoomPanel();
        p.row(0, 2);
        p.set(0, 0, -3);
        p.set(0, 1, 4);
        DUE.same("a patch without steps gives x", p.play(0, 0), 0);
        DUE.same("a patch without steps gives none", p.play(0, NONE), NONE);
        p.step(0, 1, NONE, 0);
        p.step(0, 6, NONE, 1);
        p.step(0, 8, NONE, 0);
        p.step(0, 0, NONE, 0);
        DUE.same("WIDEN, DRIVE, POWER, SUM", p.play(0, 0), 6);
        DUE.row("WIDEN", p, 1, -3, 4);
        DUE.same("DRIVE gives a LIVE CABLE", p.is(4, 7), 1);
        DUE.row("POWER", p, 5, -9, 12);
        DUE.row("SUM", p, 6, 3);
        DUE.same("none through CHECK", p.step(1, 12, NONE, 4), 1);
        DUE.same("none comes of it", p.play(1, NONE), NONE);
        for (int patch : new int[] {-1, 6, Integer.MIN_VALUE, Integer.MAX_VALUE}) {
            DUE.same("play(" + patch + ", 0)", p.play(patch, 0), BAD);
        }
        for (int x : new int[] {-2, -3, 7, Integer.MIN_VALUE, Integer.MAX_VALUE}) {
            DUE.same("play(1, " + x + ")", p.play(1, x), BAD);
        }
    }

    private static void playingWithItself() {
        LoomPanel p = new LoomPanel();
        p.row(1, 1);
        p.row(1, 1);
        p.set(0, 0, 5);
        p.set(1, 0, 6);
        p.step(2, 9, 1, 0);
        p.step(2, 9, ITSELF, 0);
        p.step(2, 9, ITSELF, 0);
        DUE.same("JOIN with 1, itself, itself", p.play(2, 0), 4);
        DUE.row("JOIN with 1, itself, itself", p, 4, 5, 6, 5, 5);
        DUE.same("played with another", p.play(2, 1), 7);
        DUE.row("played with another", p, 7, 6, 6, 6, 6);
        DUE.same("itself is none", p.step(3, 11, NONE, 2), 1);
        p.step(3, 9, ITSELF, 0);
        DUE.same("JOIN with itself that is none", p.play(3, NONE), NULL);
        DUE.same("what was done stays", p.size(8), 2);
        p.empty(3);
        DUE.same("LAY none", p.step(3, 11, NONE, 1), 1);
        p.step(3, 4, ITSELF, 0);
        DUE.same("LAY itself that is none", p.play(3, NONE), 9);
    }

    private static void stopping() {
        LoomPanel p = new LoomPanel();
        p.row(0, 1);
        p.step(0, 1, NONE, 0);
        p.step(0, 1, NONE, 0);
        p.step(0, 1, NONE, 0);
        p.step(0, 0, NONE, 0);
        DUE.same("LONGS can not be widened", p.play(0, 0), CAST);
        DUE.same("stopped() there", p.stopped(), 2);
        DUE.same("what was done stays", p.count(0), 3);
        DUE.same("one FAULT", p.count(1), 1);
        DUE.same("a BAD play", p.play(6, 0), BAD);
        DUE.same("stopped() after a BAD patch", p.stopped(), 2);
        DUE.same("a BAD play", p.play(0, 9), BAD);
        DUE.same("stopped() after a BAD x", p.stopped(), 2);
        DUE.same("a FAULT of act()", p.act(3, 0, NONE, 0), CAST);
        DUE.same("stopped() after act()", p.stopped(), 2);
        DUE.same("a FAULT at once", p.play(0, NONE), NULL);
        DUE.same("stopped() at once", p.stopped(), 0);
        p.clear();
        DUE.same("stopped() after clear()", p.stopped(), 0);
        DUE.same("a play without steps", p.play(0, NONE), NONE);
        DUE.same("stopped() after it", p.stopped(), NONE);
        p.step(1, 11, NONE, 4);
        p.step(1, 3, NONE, 4);
        DUE.same("TAP of PLACE 4 of 4", p.play(1, NONE), INDEX);
        DUE.same("stopped() at the last", p.stopped(), 1);
        p.empty(1);
        p.step(1, 11, NONE, 4);
        DUE.same("a play that ends well", p.play(1, NONE), 1);
        DUE.same("stopped() after it", p.stopped(), NONE);
    }

    private static void stoppingWhenFull() {
        LoomPanel p = new LoomPanel();
        for (int x = 0; x < 55; x++) {
            p.row(1, 0);
        }
        for (int k = 0; k < 12; k++) {
            p.step(4, 10, NONE, 0);
        }
        DUE.same("COPY until it is FULL", p.play(4, 0), FULL);
        DUE.same("stopped() there", p.stopped(), 5);
        DUE.same("60 VALUES", p.count(0), 60);
        DUE.same("FULL is the latest", p.count(2), 6);
    }

    private static void emptying() {
        LoomPanel p = new LoomPanel();
        p.row(0, 1);
        p.step(2, 1, NONE, 0);
        p.step(2, 0, NONE, 0);
        p.step(3, 1, NONE, 0);
        DUE.same("empty(2)", p.empty(2), 2);
        DUE.same("empty(2) again", p.empty(2), 0);
        DUE.same("without steps it gives x", p.play(2, 0), 0);
        DUE.same("steps begin anew", p.step(2, 10, NONE, 0), 1);
        DUE.same("the other keeps its own", p.empty(3), 1);
        for (int patch : new int[] {-1, 6, Integer.MIN_VALUE, Integer.MAX_VALUE}) {
            DUE.same("empty(" + patch + ")", p.empty(patch), BAD);
        }
        DUE.same("VALUES stay", p.count(0), 1);
    }

    private static void counting() {
        LoomPanel p = new LoomPanel();
        p.row(0, 1);
        p.act(0, NONE, NONE, 0);
        p.act(2, 0, NONE, 0);
        DUE.same("count(1) of two", p.count(1), 2);
        DUE.same("count(2), CAST", p.count(2), 1);
        DUE.same("a BAD act", p.act(13, 0, NONE, 0), BAD);
        DUE.same("BAD is no FAULT", p.count(1), 2);
        p.step(0, 11, NONE, 9);
        p.play(0, NONE);
        DUE.same("count(1), of STEPS too", p.count(1), 3);
        DUE.same("count(2), SIZE", p.count(2), 5);
        p.act(1, 0, NONE, 0);
        DUE.same("count(2) stays", p.count(2), 5);
        DUE.same("count(0)", p.count(0), 2);
        for (int what : new int[] {-1, 3, Integer.MIN_VALUE, Integer.MAX_VALUE}) {
            DUE.same("count(" + what + ")", p.count(what), BAD);
        }
    }

    private static void clearing() {
        LoomPanel p = new LoomPanel();
        p.row(2, 8);
        p.wire(true, 5);
        p.board(6, 2);
        for (int i = 0; i < 8; i++) {
            p.set(0, i, -1);
        }
        p.act(4, 2, 1, 0);
        p.act(2, NONE, NONE, 0);
        for (int patch = 0; patch < 6; patch++) {
            p.step(patch, 4, 1, 0);
        }
        DUE.same("clear()", p.clear(), 3);
        DUE.same("count(0)", p.count(0), 0);
        DUE.same("FAULTS so far stay", p.count(1), 1);
        DUE.same("the latest stays", p.count(2), 2);
        for (int patch = 0; patch < 6; patch++) {
            DUE.same("STEPS go, too", p.empty(patch), 0);
        }
        DUE.same("no such VALUE", p.size(0), BAD);
        DUE.same("numbers begin anew", p.board(8, 2), 0);
        DUE.same("a PLACE has none", p.act(3, 0, NONE, 0), NULL);
        DUE.same("the next one", p.row(1, 8), 1);
        DUE.row("row after clear()", p, 1, 0, 0, 0, 0, 0, 0, 0, 0);
        DUE.same("a WIRE", p.wire(false, 0), 2);
        DUE.same("its LEVEL", p.number(2, 0), 0);
        DUE.same("clear() again", p.clear(), 3);
        DUE.same("clear() of nothing", p.clear(), 0);
    }
}
