/** The document's names for numbers, for tests that implement it. */
interface Names {
    int NONE = LoomPanel.NONE, ITSELF = LoomPanel.ITSELF, BAD = LoomPanel.BAD,
            ROOM = LoomPanel.ROOM;

    /** The forms; in a panel of Panels.ofEachForm() the values of these forms, too. */
    int BYTES = 0, INTS = 1, LONGS = 2, GRID = 3, WIRE = 4, LIVE = 5, CABLE = 6, LIVE_CABLE = 7,
            PLUGS = 8, LOOM = 9, LIVE_LOOM = 10;
    /** A view, but no form. */
    int PLUG = 11;
    /** The number of the first value that is made after Panels.ofEachForm(). */
    int NEXT = 11;

    int SUM = 0, WIDEN = 1, NARROW = 2, TAP = 3, LAY = 4, LEVELS = 5, DRIVE = 6, PAIR = 7,
            POWER = 8, JOIN = 9, COPY = 10, NEW = 11, CHECK = 12;

    /** Faults as act() and play() answer them: -10 less the fault. */
    int CAST = -11, NULL = -12, INDEX = -13, STORE = -14, SIZE = -15, FULL = -16;

    int LEAST = Integer.MIN_VALUE, MOST = Integer.MAX_VALUE;
}
