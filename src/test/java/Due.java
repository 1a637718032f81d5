/** Compares answers with those that are due, and tells those that differ. */
final class Due {
    private final String about;
    private int asked = 0;
    private int wrong = 0;

    Due(String about) {
        this.about = about;
    }

    void same(String call, long got, long want) {
        asked++;
        if (got != want) {
            wrong++;
            System.out.println(about + ": " + call + " answered " + got + ", due is " + want);
        }
    }

    void holds(String what, boolean held) {
        asked++;
        if (!held) {
            wrong++;
            System.out.println(about + ": does not hold: " + what);
        }
    }

    /** The numbers of a row, all of them. */
    void row(String call, LoomPanel panel, int x, long... want) {
        same("size after " + call, panel.size(x), want.length);
        for (int i = 0; i < want.length; i++) {
            same("number " + i + " after " + call, panel.number(x, i), want[i]);
        }
    }

    void end() {
        System.out.println(about + ": " + asked + " answers, " + wrong + " wrong");
        if (wrong != 0) {
            System.exit(1);
        }
    }
}
