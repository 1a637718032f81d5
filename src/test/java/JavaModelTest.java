import java.util.ArrayList;
import java.util.List;

/**
 * Runs of calls on LoomPanel and on a model in which the VALUES are Java's own arrays and objects,
 * and the FAULTS are what Java itself throws. The document's forms and views are those of such
 * arrays, so the model gets its answers by another way than the class does.
 */
public final class JavaModelTest {
    private static final Due DUE = new Due("JavaModelTest");
    private static final int RUNS = 3000, CALLS = 512;

    private interface Plug {
        int level();
    }

    private static class Wire {
        final int level;

        Wire(int level) {
            this.level = level;
        }
    }

    private static final class Live extends Wire implements Plug {
        Live(int level) {
            super(level);
        }

        @Override
        public int level() {
            return level;
        }
    }

    @SuppressWarnings("serial")
    private static final class SizeFault extends RuntimeException {
    }

    @SuppressWarnings("serial")
    private static final class FullFault extends RuntimeException {
    }

    /** The same numbers in each run of this test: failures can be looked at again. */
    private static final class Dice {
        private long seed;

        Dice(long seed) {
            this.seed = seed * 0x9E3779B97F4A7C15L + 1;
        }

        int below(int bound) {
            seed = seed * 6364136223846793005L + 1442695040888963407L;
            return (int) ((seed >>> 33) % bound);
        }

        int one(int... of) {
            return of[below(of.length)];
        }
    }

    private record Step(int act, int y, int n) {
    }

    private static final class Model {
        final List<Object> values = new ArrayList<>();
        final List<List<Step>> patches = new ArrayList<>();
        int stopped = -1;
        int faults = 0;
        int latest = 0;

        Model() {
            for (int i = 0; i < 6; i++) {
                patches.add(new ArrayList<>());
            }
        }

        boolean known(int x) {
            return x >= 0 && x < values.size();
        }

        int keep(Object value) {
            values.add(value);
            return values.size() - 1;
        }

        int numberOf(Object value) {
            for (int i = 0; i < values.size(); i++) {
                if (values.get(i) == value) {
                    return i;
                }
            }
            return value == null ? -1 : keep(value);
        }

        int make(int form, int n, boolean row) {
            boolean fits = row ? form >= 0 && form <= 2 : form == 3 || form >= 6 && form <= 10;
            if (!fits || n < 0 || n > 8) {
                return -3;
            }
            return values.size() >= 60 ? -4 : keep(array(form, n));
        }

        static Object array(int form, int n) {
            switch (form) {
                case 0: return new byte[n];
                case 1: return new int[n];
                case 2: return new long[n];
                case 3: return new int[n][];
                case 6: return new Wire[n];
                case 7: return new Live[n];
                case 8: return new Plug[n];
                case 9: return new Wire[n][];
                default: return new Live[n][];
            }
        }

        int wire(boolean live, int level) {
            return values.size() >= 60 ? -4 : keep(live ? new Live(level) : new Wire(level));
        }

        int set(int x, int i, long v) {
            Object value = known(x) ? values.get(x) : null;
            if (i < 0 || i >= length(value)) {
                return -3;
            }
            if (value instanceof byte[] b) {
                b[i] = (byte) v;
            } else if (value instanceof int[] a) {
                a[i] = (int) v;
            } else if (value instanceof long[] l) {
                l[i] = v;
            } else {
                return -3;
            }
            return 1;
        }

        long number(int x, int i) {
            Object value = known(x) ? values.get(x) : null;
            if (value instanceof Wire w) {
                return w.level;
            }
            if (i < 0 || i >= length(value)) {
                return 0;
            }
            return value instanceof byte[] b ? b[i] : value instanceof int[] a ? a[i]
                    : value instanceof long[] l ? l[i] : 0;
        }

        static int length(Object value) {
            return value != null && value.getClass().isArray()
                    ? java.lang.reflect.Array.getLength(value) : 0;
        }

        static Class<?> view(int n) {
            return List.of(byte[].class, int[].class, long[].class, int[][].class, Wire.class,
                    Live.class, Wire[].class, Live[].class, Plug[].class, Wire[][].class,
                    Live[][].class, Plug.class).get(n);
        }

        int is(int x, int view) {
            if (!known(x) || view < 0 || view > 11) {
                return -3;
            }
            return view(view).isInstance(values.get(x)) ? 1 : 0;
        }

        int views(int x) {
            int bits = 0;
            for (int view = 0; view <= 11 && known(x); view++) {
                bits |= is(x, view) << view;
            }
            return known(x) ? bits : -3;
        }

        int size(int x) {
            return known(x) ? length(values.get(x)) : -3;
        }

        int act(int act, int x, int y, int n) {
            boolean bad = act < 0 || act > 12 || x != -1 && !known(x) || y != -1 && !known(y);
            return bad ? -3 : perform(act, x, y, n);
        }

        int step(int patch, int act, int y, int n) {
            if (patch < 0 || patch > 5 || act < 0 || act > 12 || y < -2 || y >= values.size()) {
                return -3;
            }
            List<Step> steps = patches.get(patch);
            if (steps.size() >= 12) {
                return -4;
            }
            steps.add(new Step(act, y, n));
            return steps.size();
        }

        int play(int patch, int x) {
            if (patch < 0 || patch > 5 || x != -1 && !known(x)) {
                return -3;
            }
            stopped = -1;
            int carried = x;
            int at = 0;
            for (Step s : patches.get(patch)) {
                carried = perform(s.act, carried, s.y == -2 ? x : s.y, s.n);
                if (carried < -10) {
                    stopped = at;
                    break;
                }
                at++;
            }
            return carried;
        }

        int empty(int patch) {
            if (patch < 0 || patch > 5) {
                return -3;
            }
            int had = patches.get(patch).size();
            patches.get(patch).clear();
            return had;
        }

        int count(int what) {
            return what == 0 ? values.size() : what == 1 ? faults : what == 2 ? latest : -3;
        }

        int clear() {
            int had = values.size();
            values.clear();
            patches.forEach(List::clear);
            return had;
        }

        int perform(int act, int x, int y, int n) {
            int fault;
            try {
                return done(act, x < 0 ? null : values.get(x), y < 0 ? null : values.get(y), n);
            } catch (ClassCastException e) {
                fault = 1;
            } catch (NullPointerException e) {
                fault = 2;
            } catch (ArrayStoreException e) {
                fault = 4;
            } catch (IndexOutOfBoundsException e) {
                fault = 3;
            } catch (SizeFault e) {
                fault = 5;
            } catch (FullFault e) {
                fault = 6;
            }
            faults++;
            latest = fault;
            return -10 - fault;
        }

        int done(int act, Object x, Object y, int n) {
            int makes = act == 3 || act == 4 || act == 12 ? 0
                    : act == 6 && x instanceof int[] a ? 1 + a.length : 1;
            if (values.size() + makes > 60) {
                throw new FullFault();
            }
            switch (act) {
                case 0: return keep(sum(x));
                case 1: return keep(widen(x));
                case 2: return keep(narrow(x));
                case 3: return numberOf(tap(x, n));
                case 4: return numberOf(lay(x, y, n));
                case 5: return keep(levels(x));
                case 6: return drive((int[]) x, n != 0);
                case 7: return keep(pair(x, y, n != 0));
                case 8: return keep(power(x));
                case 9: return keep(join(x, y));
                case 10: return keep(copy(x));
                case 11: return keep(fresh(n));
                default: return numberOf(check(x, n));
            }
        }

        static Object notNull(Object x) {
            if (x == null) {
                throw new NullPointerException();
            }
            return x;
        }

        static long total(int[] ints) {
            long total = 0;
            for (int v : ints) {
                total += v;
            }
            return total;
        }

        static long[] sum(Object x) {
            notNull(x);
            long total = 0;
            if (x instanceof byte[] b) {
                for (byte v : b) {
                    total += v;
                }
                return new long[] {total};
            }
            if (x instanceof int[] a) {
                return new long[] {total(a)};
            }
            if (x instanceof long[] l) {
                for (long v : l) {
                    total += v;
                }
                return new long[] {total};
            }
            int[][] grid = (int[][]) x;
            long[] sums = new long[grid.length];
            for (int i = 0; i < sums.length; i++) {
                sums[i] = grid[i] == null ? 0 : total(grid[i]);
            }
            return sums;
        }

        static Object widen(Object x) {
            notNull(x);
            if (x instanceof byte[] b) {
                int[] wide = new int[b.length];
                for (int i = 0; i < b.length; i++) {
                    wide[i] = b[i];
                }
                return wide;
            }
            int[] a = (int[]) x;
            long[] wide = new long[a.length];
            for (int i = 0; i < a.length; i++) {
                wide[i] = a[i];
            }
            return wide;
        }

        static Object narrow(Object x) {
            notNull(x);
            if (x instanceof long[] l) {
                int[] narrow = new int[l.length];
                for (int i = 0; i < l.length; i++) {
                    narrow[i] = (int) l[i];
                }
                return narrow;
            }
            int[] a = (int[]) x;
            byte[] narrow = new byte[a.length];
            for (int i = 0; i < a.length; i++) {
                narrow[i] = (byte) a[i];
            }
            return narrow;
        }

        static Object tap(Object x, int n) {
            if (x instanceof int[][] || x instanceof Plug[] || x instanceof Wire[][]) {
                return notNull(((Object[]) x)[n]);
            }
            return notNull(((Wire[]) x)[n]);
        }

        static Object lay(Object x, Object y, int n) {
            if (x instanceof int[][] grid) {
                int[] ints = (int[]) y;
                grid[n] = ints;
            } else if (x instanceof Wire[][] loom) {
                Wire[] cable = (Wire[]) y;
                loom[n] = cable;
            } else if (x instanceof Plug[] plugs && !(x instanceof Wire[])) {
                Plug plug = (Plug) y;
                plugs[n] = plug;
            } else {
                Wire wire = (Wire) y;
                Wire[] cable = (Wire[]) x;
                cable[n] = wire;
            }
            return x;
        }

        static int[] levels(Object x) {
            Object[] places = x instanceof Plug[] plugs ? plugs : (Wire[]) x;
            int[] levels = new int[places.length];
            for (int i = 0; i < levels.length; i++) {
                levels[i] = places[i] == null ? 0 : ((Wire) places[i]).level;
            }
            return levels;
        }

        int drive(int[] ints, boolean live) {
            Wire[] cable = live ? new Live[ints.length] : new Wire[ints.length];
            for (int i = 0; i < ints.length; i++) {
                cable[i] = live ? new Live(ints[i]) : new Wire(ints[i]);
                keep(cable[i]);
            }
            return keep(cable);
        }

        static Object pair(Object x, Object y, boolean live) {
            Wire[] first = live ? (Live[]) x : (Wire[]) x;
            Wire[] second = live ? (Live[]) y : (Wire[]) y;
            notNull(first);
            notNull(second);
            Wire[][] loom = live ? new Live[2][] : new Wire[2][];
            loom[0] = first;
            loom[1] = second;
            return loom;
        }

        static int[] power(Object x) {
            notNull(x);
            if (x instanceof Plug plug) {
                return new int[] {3 * plug.level()};
            }
            Plug[] plugs = (Plug[]) x;
            int[] power = new int[plugs.length];
            for (int i = 0; i < power.length; i++) {
                power[i] = plugs[i] == null ? 0 : 3 * plugs[i].level();
            }
            return power;
        }

        static Object join(Object x, Object y) {
            Class<?> kind = x instanceof byte[] || x instanceof int[] || x instanceof long[]
                    ? x.getClass() : Wire[].class;
            kind.cast(x);
            kind.cast(y);
            notNull(x);
            notNull(y);
            int length = length(x) + length(y);
            if (length > 8) {
                throw new SizeFault();
            }
            Object joined = java.lang.reflect.Array.newInstance(
                    x.getClass().getComponentType(), length);
            System.arraycopy(x, 0, joined, 0, length(x));
            System.arraycopy(y, 0, joined, length(x), length(y));
            return joined;
        }

        static Object copy(Object x) {
            notNull(x);
            return x instanceof byte[] b ? b.clone() : x instanceof int[] a ? a.clone()
                    : x instanceof long[] l ? l.clone() : ((Object[]) x).clone();
        }

        static Object fresh(int n) {
            if (n < 0 || n > 8) {
                throw new SizeFault();
            }
            return new Wire[n];
        }

        static Object check(Object x, int n) {
            if (n < 0 || n > 11) {
                throw new ClassCastException();
            }
            return view(n).cast(x);
        }
    }

    private final LoomPanel panel = new LoomPanel();
    private final Model model = new Model();
    private final Dice dice;
    private final int run;
    private int calls = 0;

    private JavaModelTest(int run) {
        this.run = run;
        this.dice = new Dice(run);
    }

    public static void main(String[] args) {
        for (int run = 1; run <= RUNS; run++) {
            new JavaModelTest(run).go();
        }
        DUE.end();
    }

    private void go() {
        int starters = dice.below(3) == 0 ? 0 : dice.below(40);
        for (int i = 0; i < starters; i++) {
            maker();
        }
        while (calls < CALLS - 200) {
            call();
        }
        lookAtAll();
        lastCalls();
    }

    private void same(String call, long got, long want) {
        calls++;
        DUE.same("run " + run + ", call " + calls + ": " + call, got, want);
    }

    private int value() {
        int known = model.values.size();
        return known == 0 || dice.below(12) == 0 ? dice.one(-1, -1, -1, -2, -3, known, 60, 99)
                : dice.below(known);
    }

    private int smallNumber() {
        return dice.below(25) == 0 ? dice.one(Integer.MIN_VALUE, -1, 8, 9, 12, Integer.MAX_VALUE)
                : dice.below(4);
    }

    private int length() {
        return dice.below(20) == 0 ? dice.one(-1, 9, Integer.MAX_VALUE) : dice.below(9);
    }

    private int someAct() {
        return dice.below(40) == 0 ? dice.one(-1, 13) : dice.below(13);
    }

    private int n(int act) {
        return act == 12 ? dice.below(13) : act == 11 ? length() : smallNumber();
    }

    private long anyNumber() {
        return (long) dice.below(Integer.MAX_VALUE) * dice.one(1, -1, 3, 1 << 30)
                >> dice.below(40);
    }

    private void maker() {
        int form = dice.below(12);
        int n = length();
        switch (dice.below(8)) {
            case 0: case 1:
                int number = dice.below(12) == 0 ? form : form % 3;
                same("row(" + number + ", " + n + ")", panel.row(number, n),
                        model.make(number, n, true));
                break;
            case 2: case 3: case 4:
                same("board(" + form + ", " + n + ")", panel.board(form, n),
                        model.make(form, n, false));
                break;
            case 5:
                int level = (int) anyNumber();
                boolean live = dice.below(2) == 0;
                same("wire(" + live + ", " + level + ")", panel.wire(live, level),
                        model.wire(live, level));
                break;
            default:
                int x = value();
                int i = smallNumber();
                long v = anyNumber();
                same("set(" + x + ", " + i + ", " + v + ")", panel.set(x, i, v),
                        model.set(x, i, v));
        }
    }

    private void call() {
        int x = value();
        int y = value();
        int act = someAct();
        int n = n(act);
        int patch = dice.below(30) == 0 ? dice.one(-1, 6) : dice.below(6);
        switch (dice.below(24)) {
            case 0: case 1:
                maker();
                break;
            case 2: case 3: case 4:
                same("step(" + patch + ", " + act + ", " + y + ", " + n + ")",
                        panel.step(patch, act, y, n), model.step(patch, act, y, n));
                break;
            case 5: case 6:
                same("play(" + patch + ", " + x + ")", panel.play(patch, x),
                        model.play(patch, x));
                same("stopped()", panel.stopped(), model.stopped);
                break;
            case 7:
                look(x);
                break;
            case 8:
                if (dice.below(6) == 0) {
                    same("empty(" + patch + ")", panel.empty(patch), model.empty(patch));
                }
                break;
            case 9:
                if (dice.below(5) == 0) {
                    same("clear()", panel.clear(), model.clear());
                }
                break;
            case 10:
                int what = dice.below(5) - 1;
                same("count(" + what + ")", panel.count(what), model.count(what));
                break;
            case 11: case 12: case 13: case 14:
                same("act(4, " + x + ", " + y + ", " + n + ")", panel.act(4, x, y, n),
                        model.act(4, x, y, n));
                break;
            case 15: case 16:
                int joins = dice.one(7, 9);
                same("act(" + joins + ", " + x + ", " + y + ", " + n + ")",
                        panel.act(joins, x, y, n), model.act(joins, x, y, n));
                break;
            default:
                anyAct();
        }
    }

    private void look(int x) {
        int view = dice.below(14) - 1;
        int i = smallNumber();
        same("is(" + x + ", " + view + ")", panel.is(x, view), model.is(x, view));
        same("views(" + x + ")", panel.views(x), model.views(x));
        same("size(" + x + ")", panel.size(x), model.size(x));
        same("number(" + x + ", " + i + ")", panel.number(x, i), model.number(x, i));
    }

    /** What is left of the object's calls goes over the values, their numbers and PLACES. */
    private void lookAtAll() {
        for (int what = 0; what <= 2; what++) {
            same("count(" + what + ")", panel.count(what), model.count(what));
        }
        for (int x = 0; x < model.values.size(); x++) {
            int size = model.size(x);
            for (int i = 0; i < size && calls < CALLS - 20; i++) {
                same("number(" + x + ", " + i + ")", panel.number(x, i), model.number(x, i));
                same("act(3, " + x + ", -1, " + i + ")", panel.act(3, x, -1, i),
                        model.act(3, x, -1, i));
            }
        }
    }

    /** The object's last call, the 512th, is an act, and is as due as the first. */
    private void lastCalls() {
        while (calls < CALLS) {
            anyAct();
        }
    }

    private void anyAct() {
        int x = value();
        int y = value();
        int act = someAct();
        int n = n(act);
        same("act(" + act + ", " + x + ", " + y + ", " + n + ")", panel.act(act, x, y, n),
                model.act(act, x, y, n));
    }
}
