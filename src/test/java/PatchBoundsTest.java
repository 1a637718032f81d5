/** The sentences on PATCHES and their STEPS, and of promises 8 to 11, 15 and 16. */
public final class PatchBoundsTest implements Names {
    private static final Due DUE = new Due("PatchBoundsTest");
    private static final int[] NO_PATCHES = {LEAST, -2, -1, 6, 7, MOST};
    private static final int[] NO_ACTS = {LEAST, -1, 13, MOST};

    public static void main(String[] args) {
        sixPatchesOfTwelve();
        whatAStepHas();
        played();
        playedWithoutSteps();
        faultEndsIt();
        severalRefusals();
        step();
        play();
        stopped();
        stoppedAtEachStep();
        empty();
        count();
        countOfFaults();
        clear();
        clearOfSixty();
        DUE.end();
    }

    private static void sixPatchesOfTwelve() {
        DUE.says("PATCHES 0 to 5 are rows of up to 12 STEPS");
        LoomPanel p = new LoomPanel();
        for (int patch = 0; patch <= 5; patch++) {
            for (int k = 0; k < 12; k++) {
                DUE.same("step(" + patch + ", ..)", p.step(patch, CHECK, NONE, k), k + 1);
            }
            DUE.same("a 13th", p.step(patch, CHECK, NONE, 0), ROOM);
        }
        for (int patch = 0; patch <= 5; patch++) {
            DUE.same("play(" + patch + ", NONE)", p.play(patch, NONE), NONE);
            DUE.same("stopped()", p.stopped(), NONE);
            DUE.same("empty(" + patch + ")", p.empty(patch), 12);
            DUE.same("a step anew", p.step(patch, CHECK, NONE, 0), 1);
        }
    }

    private static void whatAStepHas() {
        DUE.says("an act, y (a VALUE, none, or ITSELF: the VALUE that the patch began with), n.");
        LoomPanel p = new LoomPanel();
        p.row(INTS, 1);
        p.row(INTS, 1);
        p.set(0, 0, 5);
        p.set(1, 0, 6);
        p.step(0, JOIN, 1, LEAST);
        p.step(0, JOIN, ITSELF, MOST);
        DUE.same("play(0, 0)", p.play(0, 0), 3);
        DUE.row("JOIN with 1, with itself", p, 3, 5, 6, 5);
        DUE.same("play(0, 1)", p.play(0, 1), 5);
        DUE.row("JOIN with 1, with itself", p, 5, 6, 6, 6);
        p.step(1, JOIN, NONE, 0);
        DUE.same("JOIN with none", p.play(1, 0), NULL);
        p.step(2, NEW, NONE, 2);
        p.step(2, LAY, ITSELF, 1);
        p.step(2, TAP, ITSELF, 1);
        DUE.same("itself that is none", p.play(2, NONE), NULL);
        DUE.same("it is at the TAP", p.stopped(), 2);
        int live = p.wire(true, 8);
        DUE.same("itself that is a LIVE", p.play(2, live), live);
        p.step(3, NEW, NONE, 8);
        p.step(3, PAIR, ITSELF, 0);
        p.step(3, TAP, NONE, 1);
        DUE.same("itself that is no CABLE", p.play(3, live), CAST);
        DUE.same("it is at the PAIR", p.stopped(), 1);
        int cable = p.board(LIVE_CABLE, 0);
        DUE.same("itself that is a CABLE", p.play(3, cable), cable);
        DUE.same("ITSELF is no y of act()", p.act(PAIR, cable, ITSELF, 0), BAD);
    }

    private static void played() {
        DUE.says("PLAYED with x: each STEP's act of what came of the one before (the first one of x); "
                + "what comes of the last one");
        LoomPanel p = new LoomPanel();
        p.row(BYTES, 2);
        p.set(0, 0, -128);
        p.set(0, 1, 127);
        int[] acts = {WIDEN, DRIVE, POWER, WIDEN, NARROW, NARROW, COPY, WIDEN, DRIVE, COPY, LEVELS, SUM};
        for (int k = 0; k < 12; k++) {
            DUE.same("step " + k, p.step(5, acts[k], NONE, k == 1 ? 1 : 0), k + 1);
        }
        DUE.same("play(5, 0)", p.play(5, 0), 16);
        DUE.same("stopped()", p.stopped(), NONE);
        DUE.row("WIDEN", p, 1, -128, 127);
        DUE.same("DRIVE", p.is(4, LIVE_CABLE), 1);
        DUE.row("POWER", p, 5, -384, 381);
        DUE.row("NARROW to BYTES", p, 8, -128, 125);
        DUE.row("SUM", p, 16, -3);
        DUE.same("count(0)", p.count(0), 17);
        p.step(0, LAY, 2, 1);
        DUE.same("it may give the same", p.play(0, 4), 4);
        DUE.same("count(0)", p.count(0), 17);
        p.step(1, CHECK, NONE, BYTES);
        p.step(1, CHECK, NONE, LONGS);
        DUE.same("none through all", p.play(1, NONE), NONE);
        p.step(1, WIDEN, NONE, 0);
        DUE.same("then NULL", p.play(1, NONE), NULL);
        DUE.same("stopped()", p.stopped(), 2);
    }

    private static void playedWithoutSteps() {
        DUE.says("(the first one of x); what comes of the last one");
        LoomPanel p = Panels.ofEachForm();
        for (int x = NONE; x <= LIVE_LOOM; x++) {
            DUE.same("play(0, " + x + ") without steps", p.play(0, x), x);
            DUE.same("stopped()", p.stopped(), NONE);
        }
        DUE.same("count(0)", p.count(0), NEXT);
        DUE.same("count(1)", p.count(1), 0);
    }

    private static void faultEndsIt() {
        DUE.says("a FAULT ends it (what was done stays).");
        LoomPanel p = Panels.ofEachForm();
        p.step(0, LAY, LIVE, 2);
        p.step(0, COPY, NONE, 0);
        p.step(0, LAY, WIRE, 2);
        p.step(0, LAY, NONE, 2);
        p.step(0, NEW, NONE, 1);
        DUE.same("play(0, LIVE CABLE)", p.play(0, LIVE_CABLE), STORE);
        DUE.same("stopped()", p.stopped(), 2);
        DUE.same("the COPY stays, NEW is not done", p.count(0), NEXT + 1);
        DUE.act(p, TAP, LIVE_CABLE, NONE, 2, LIVE);
        DUE.act(p, TAP, NEXT, NONE, 2, LIVE);
        DUE.same("the FAULT", p.count(1), 1);
        DUE.same("its kind", p.count(2), 4);
        DUE.same("the steps stay", p.empty(0), 5);
        LoomPanel q = Panels.of(58);
        q.step(0, NEW, NONE, 0);
        q.step(0, NEW, NONE, 0);
        q.step(0, NEW, NONE, 9);
        DUE.same("FULL ahead of SIZE", q.play(0, NONE), FULL);
        DUE.same("stopped()", q.stopped(), 2);
        DUE.same("what was done stays", q.count(0), 60);
    }

    private static void severalRefusals() {
        DUE.says("Of several refusals the first here: BAD (a number is not as told; there is no such "
                + "VALUE, PATCH), ROOM; they change nothing.");
        // Patch 4 of a panel in use has twelve steps.
        DUE.refused("a 13th step", Panels::inUse, p -> p.step(4, NEW, NONE, 0), ROOM);
        for (int act : NO_ACTS) {
            DUE.refused("a 13th step", Panels::inUse, p -> p.step(4, act, NONE, 0), BAD);
        }
        for (int y : new int[] {LEAST, -3, NEXT, 60, MOST}) {
            DUE.refused("a 13th step", Panels::inUse, p -> p.step(4, NEW, y, 0), BAD);
        }
        for (int y : new int[] {NONE, ITSELF, 0, LIVE_LOOM}) {
            DUE.refused("a 13th step", Panels::inUse, p -> p.step(4, NEW, y, 0), ROOM);
        }
    }

    private static void step() {
        DUE.says("A STEP behind those of a PATCH: how many. BAD: also y; ROOM: 12.");
        for (int patch : NO_PATCHES) {
            DUE.refused("step(" + patch + ", ..)", Panels::inUse,
                    p -> p.step(patch, NEW, NONE, 0), BAD);
        }
        for (int act : NO_ACTS) {
            DUE.refused("step(0, " + act + ", ..)", Panels::inUse,
                    p -> p.step(0, act, NONE, 0), BAD);
        }
        for (int y : new int[] {LEAST, -11, -4, -3, NEXT, 59, 60, MOST}) {
            DUE.refused("step(0, NEW, " + y + ", 0)", Panels::inUse,
                    p -> p.step(0, NEW, y, 0), BAD);
        }
        LoomPanel p = Panels.inUse();
        DUE.same("behind three", p.step(1, SUM, NONE, LEAST), 4);
        DUE.same("the last VALUE is a y", p.step(1, SUM, LIVE_LOOM, MOST), 5);
        DUE.same("of another patch", p.step(0, SUM, ITSELF, 0), 1);
        DUE.same("no step makes a VALUE", p.count(0), NEXT);
        p.clear();
        DUE.same("a VALUE that is gone", p.step(0, SUM, 0, 0), BAD);
        DUE.same("none is no VALUE", p.step(0, SUM, NONE, 0), 1);
    }

    private static void play() {
        DUE.says("PLAYED: the VALUE (NONE: none); -10 less the FAULT. BAD: PATCH, x.");
        for (int patch : NO_PATCHES) {
            DUE.refused("play(" + patch + ", 0)", Panels::inUse, p -> p.play(patch, 0), BAD);
            DUE.refused("play(" + patch + ", NONE)", Panels::inUse, p -> p.play(patch, NONE), BAD);
        }
        for (int x : new int[] {LEAST, -11, -4, -3, ITSELF, NEXT, 59, 60, MOST}) {
            DUE.refused("play(1, " + x + ")", Panels::inUse, p -> p.play(1, x), BAD);
            DUE.refused("play(0, " + x + ")", Panels::inUse, p -> p.play(0, x), BAD);
        }
        int[] acts = {SUM, SUM, TAP, LAY, NEW, NEW};
        int[] xs = {WIRE, NONE, CABLE, LIVE_CABLE, NONE, NONE};
        int[] ns = {0, 0, 3, 0, 9, 0};
        int[] faults = {CAST, NULL, INDEX, STORE, SIZE, FULL};
        for (int k = 0; k < 6; k++) {
            LoomPanel p = k == 5 ? Panels.full() : Panels.ofEachForm();
            p.step(0, acts[k], k == 3 ? WIRE : NONE, ns[k]);
            DUE.same("play(0, " + xs[k] + ")", p.play(0, xs[k]), faults[k]);
            DUE.same("count(2)", p.count(2), k + 1);
        }
    }

    private static void stopped() {
        DUE.says("The STEP at which the latest play() that was not BAD had a FAULT; NONE: it had none, "
                + "or there was none.");
        LoomPanel p = Panels.ofEachForm();
        DUE.same("there was none", p.stopped(), NONE);
        p.act(SUM, NONE, NONE, 0);
        DUE.same("a FAULT of act() is none of play()", p.stopped(), NONE);
        p.step(0, CHECK, NONE, BYTES);
        p.step(0, CHECK, NONE, INTS);
        DUE.same("a BAD play", p.play(0, 60), BAD);
        DUE.same("still none", p.stopped(), NONE);
        DUE.same("play(0, BYTES)", p.play(0, BYTES), CAST);
        DUE.same("at the second", p.stopped(), 1);
        DUE.same("asked again", p.stopped(), 1);
        for (int patch : NO_PATCHES) {
            p.play(patch, BYTES);
            DUE.same("after a BAD patch", p.stopped(), 1);
        }
        for (int x : new int[] {LEAST, -3, ITSELF, NEXT, MOST}) {
            p.play(0, x);
            DUE.same("after a BAD x", p.stopped(), 1);
        }
        p.act(CHECK, BYTES, NONE, BYTES);
        p.act(SUM, NONE, NONE, 0);
        DUE.same("after act()", p.stopped(), 1);
        p.empty(0);
        DUE.same("after empty()", p.stopped(), 1);
        p.clear();
        DUE.same("after clear()", p.stopped(), 1);
        p.play(0, NONE);
        DUE.same("after one without steps", p.stopped(), NONE);
        p.step(0, SUM, NONE, 0);
        p.play(0, NONE);
        DUE.same("at the first", p.stopped(), 0);
        p.empty(0);
        p.step(0, NEW, NONE, 0);
        p.play(0, NONE);
        DUE.same("after one with no FAULT", p.stopped(), NONE);
    }

    private static void stoppedAtEachStep() {
        DUE.says("The STEP at which the latest play()");
        for (int at = 0; at < 12; at++) {
            LoomPanel p = Panels.ofEachForm();
            for (int k = 0; k < 12; k++) {
                p.step(3, CHECK, NONE, k == at ? INTS : BYTES);
            }
            DUE.same("play(3, BYTES)", p.play(3, BYTES), CAST);
            DUE.same("stopped()", p.stopped(), at);
            DUE.same("count(1)", p.count(1), 1);
        }
    }

    private static void empty() {
        DUE.says("All STEPS of a PATCH go: how many it had. BAD.");
        for (int steps = 0; steps <= 12; steps++) {
            LoomPanel p = Panels.ofEachForm();
            for (int k = 0; k < steps; k++) {
                p.step(2, SUM, NONE, 0);
                p.step(3, CHECK, NONE, BYTES);
            }
            DUE.same("empty(2)", p.empty(2), steps);
            DUE.same("empty(2) again", p.empty(2), 0);
            DUE.same("it has none", p.play(2, WIRE), WIRE);
            DUE.same("a step anew", p.step(2, NEW, NONE, 0), 1);
            DUE.same("the other keeps them", p.empty(3), steps);
        }
        for (int patch : NO_PATCHES) {
            DUE.refused("empty(" + patch + ")", Panels::inUse, p -> p.empty(patch), BAD);
        }
    }

    private static void count() {
        DUE.says("How many: 0 VALUES, 1 FAULTS of acts so far (of STEPS, too), 2 the latest one (0). "
                + "BAD.");
        LoomPanel fresh = new LoomPanel();
        for (int what = 0; what <= 2; what++) {
            DUE.same("count(" + what + ") of a new one", fresh.count(what), 0);
        }
        for (int what : new int[] {LEAST, -1, 3, 4, MOST}) {
            DUE.refused("count(" + what + ")", Panels::inUse, p -> p.count(what), BAD);
        }
        LoomPanel p = new LoomPanel();
        for (int made = 1; made <= 60; made++) {
            p.wire(false, made);
            DUE.same("count(0)", p.count(0), made);
        }
        p.wire(false, 0);
        DUE.same("count(0) after ROOM", p.count(0), 60);
        DUE.same("ROOM is no FAULT", p.count(1), 0);
    }

    private static void countOfFaults() {
        DUE.says("1 FAULTS of acts so far (of STEPS, too), 2 the latest one (0).");
        LoomPanel p = Panels.ofEachForm();
        int[][] calls = {{SUM, WIRE, NONE, 0}, {SUM, NONE, NONE, 0}, {TAP, CABLE, NONE, 3},
            {LAY, LIVE_CABLE, WIRE, 0}, {NEW, NONE, NONE, 9}};
        for (int k = 0; k < calls.length; k++) {
            p.act(calls[k][0], calls[k][1], calls[k][2], calls[k][3]);
            DUE.same("count(1)", p.count(1), k + 1);
            DUE.same("count(2)", p.count(2), k + 1);
            p.act(NEW, NONE, NONE, 0);
            p.act(13, NONE, NONE, 0);
            p.play(6, 0);
            p.row(INTS, 9);
            DUE.same("count(1) stays", p.count(1), k + 1);
            DUE.same("count(2) stays", p.count(2), k + 1);
        }
        p.step(0, CHECK, NONE, BYTES);
        p.step(0, WIDEN, NONE, 0);
        p.step(0, SUM, NONE, 0);
        p.play(0, NONE);
        DUE.same("count(1), one more", p.count(1), 6);
        DUE.same("count(2), NULL", p.count(2), 2);
        p.play(0, WIRE);
        DUE.same("count(1), one more", p.count(1), 7);
        DUE.same("count(2), CAST", p.count(2), 1);
        p.play(0, BYTES);
        DUE.same("count(1), none more", p.count(1), 7);
        Panels.fill(p, 60);
        p.act(NEW, NONE, NONE, 9);
        DUE.same("count(1), one more", p.count(1), 8);
        DUE.same("count(2), FULL", p.count(2), 6);
    }

    private static void clear() {
        DUE.says("No VALUES (STEPS go, too; FAULTS so far stay): how many VALUES there were.");
        LoomPanel p = Panels.inUse();
        int faults = p.count(1);
        int latest = p.count(2);
        DUE.holds("there was a FAULT", faults == 1 && latest == 1);
        DUE.same("clear()", p.clear(), NEXT);
        DUE.same("count(0)", p.count(0), 0);
        DUE.same("count(1)", p.count(1), faults);
        DUE.same("count(2)", p.count(2), latest);
        DUE.same("clear() again", p.clear(), 0);
        for (int patch = 0; patch < 6; patch++) {
            DUE.same("empty(" + patch + ")", p.empty(patch), 0);
        }
        DUE.same("size(0)", p.size(0), BAD);
        DUE.same("number(WIRE, 0)", p.number(WIRE, 0), 0);
        DUE.same("act of 0", p.act(CHECK, 0, NONE, 0), BAD);
        DUE.same("play with 0", p.play(0, 0), BAD);
        DUE.same("a WIRE", p.wire(false, 0), 0);
        DUE.same("its LEVEL", p.number(0, 0), 0);
        for (int form : new int[] {GRID, CABLE, LIVE_CABLE, PLUGS, LOOM, LIVE_LOOM}) {
            int x = p.board(form, 3);
            for (int i = 0; i < 3; i++) {
                DUE.act(p, TAP, x, NONE, i, NULL);
            }
        }
    }

    private static void clearOfSixty() {
        DUE.says("how many VALUES there were.");
        LoomPanel p = Panels.full();
        DUE.same("clear()", p.clear(), 60);
        for (int x = 0; x < 60; x++) {
            DUE.same("a row", p.row(INTS, 8), x);
        }
        DUE.same("a 61st", p.row(INTS, 8), ROOM);
        DUE.row("the last", p, 59, 0, 0, 0, 0, 0, 0, 0, 0);
        DUE.same("clear()", p.clear(), 60);
        DUE.act(p, NEW, NONE, NONE, 8, 0);
        DUE.act(p, TAP, 0, NONE, 7, NULL);
    }
}
