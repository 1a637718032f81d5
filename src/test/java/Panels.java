import java.util.ArrayList;
import java.util.List;

/** Panels to begin a test with, and what can be seen of a panel. */
final class Panels implements Names {
    private Panels() {
    }

    /** One of each form, numbered as the forms are; LEVELS 5 and 7; three places, with nothing. */
    static LoomPanel ofEachForm() {
        LoomPanel p = new LoomPanel();
        for (int form = BYTES; form <= LIVE_LOOM; form++) {
            make(p, form, 3);
        }
        return p;
    }

    /** The same, with something in PLACE 1 of each board, numbers in the rows, steps and a fault. */
    static LoomPanel inUse() {
        LoomPanel p = ofEachForm();
        for (int row = BYTES; row <= LONGS; row++) {
            p.set(row, 0, 11 + row);
            p.set(row, 2, -row);
        }
        int[] boards = {GRID, CABLE, LIVE_CABLE, PLUGS, LOOM, LIVE_LOOM};
        int[] fitting = {INTS, WIRE, LIVE, LIVE, CABLE, LIVE_CABLE};
        for (int b = 0; b < boards.length; b++) {
            p.act(LAY, boards[b], fitting[b], 1);
        }
        p.step(1, CHECK, NONE, BYTES);
        p.step(1, WIDEN, NONE, 0);
        p.step(1, JOIN, INTS, 0);
        for (int k = 0; k < 12; k++) {
            p.step(4, CHECK, ITSELF, k == 11 ? INTS : BYTES);
        }
        p.play(4, BYTES);
        return p;
    }

    /** Panels.ofEachForm() and as many rows without numbers as there can be: 60 values. */
    static LoomPanel full() {
        return of(60);
    }

    static LoomPanel of(int values) {
        LoomPanel p = ofEachForm();
        fill(p, values);
        return p;
    }

    static void fill(LoomPanel p, int values) {
        while (p.count(0) < values && p.row(LONGS, 0) >= 0) {
            // The row is all that is wanted.
        }
    }

    static int make(LoomPanel p, int form, int n) {
        if (form <= LONGS) {
            return p.row(form, n);
        }
        return form == WIRE || form == LIVE ? p.wire(form == LIVE, form == LIVE ? 7 : 5)
                : p.board(form, n);
    }

    /** All that can be seen but the faults; it uses the panel up, as seeing plays its patches. */
    static List<Long> seen(LoomPanel p) {
        List<Long> all = new ArrayList<>();
        int values = p.count(0);
        all.add((long) values);
        all.add((long) p.stopped());
        for (int x = 0; x < values; x++) {
            all.add((long) p.views(x));
            all.add((long) p.size(x));
            all.add(p.number(x, 0));
            for (int i = 0; i < p.size(x); i++) {
                all.add(p.number(x, i));
                all.add((long) p.act(TAP, x, NONE, i));
            }
        }
        for (int patch = 0; patch < 6; patch++) {
            all.add((long) p.play(patch, values == 0 ? NONE : 0));
            all.add((long) p.stopped());
            all.add((long) p.count(0));
            all.add((long) p.empty(patch));
        }
        return all;
    }
}
