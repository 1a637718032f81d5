import java.io.IOException;
import java.nio.file.Files;
import java.nio.file.Path;
import java.util.function.Supplier;
import java.util.function.ToIntFunction;

/** Compares answers with those that are due, and tells those that differ. */
final class Due {
    private static final Path DOCUMENT = Path.of("../shared/DOC.md");

    private final String about;
    private String document = "";
    private String sentence = "";
    private int askedOfSentence = 1;
    private int asked = 0;
    private int wrong = 0;

    Due(String about) {
        this.about = about;
    }

    /** What comes next tests this sentence, which must stand in the document as it is here. */
    void says(String words) {
        endSentence();
        sentence = words;
        askedOfSentence = 0;
        if (Files.isReadable(DOCUMENT) && !document().contains(words)) {
            tell("the document has no such sentence");
        }
    }

    private String document() {
        if (document.isEmpty()) {
            try {
                document = Files.readString(DOCUMENT).replaceAll("\\s+", " ");
            } catch (IOException e) {
                tell("the document can not be read: " + e);
            }
        }
        return document;
    }

    private void endSentence() {
        if (askedOfSentence == 0) {
            tell("nothing was asked of it");
        }
    }

    private void tell(String what) {
        wrong++;
        System.out.println(about + (sentence.isEmpty() ? "" : " [" + sentence + "]") + ": " + what);
    }

    void same(String call, long got, long want) {
        holds(call + " answered " + got + ", due is " + want, got == want);
    }

    void holds(String what, boolean held) {
        asked++;
        askedOfSentence++;
        if (!held) {
            tell("does not hold: " + what);
        }
    }

    /** The numbers of a row, all of them. */
    void row(String call, LoomPanel panel, int x, long... want) {
        same("size after " + call, panel.size(x), want.length);
        for (int i = 0; i < want.length; i++) {
            same("number " + i + " after " + call, panel.number(x, i), want[i]);
        }
    }

    void act(LoomPanel p, int act, int x, int y, int n, int want) {
        same("act(" + act + ", " + x + ", " + y + ", " + n + ")", p.act(act, x, y, n), want);
    }

    /** The call is refused: it answers so, is no fault, and the panel is as one without the call. */
    void refused(String call, Supplier<LoomPanel> panel, ToIntFunction<LoomPanel> ask, int want) {
        LoomPanel p = panel.get();
        LoomPanel without = panel.get();
        same(call, ask.applyAsInt(p), want);
        same("count(1) after " + call, p.count(1), without.count(1));
        same("count(2) after " + call, p.count(2), without.count(2));
        holds(call + " changes nothing", Panels.seen(p).equals(Panels.seen(without)));
    }

    /** The act has the fault: it is counted, and else the panel is as one without the call. */
    void faulted(Supplier<LoomPanel> panel, int act, int x, int y, int n, int want) {
        LoomPanel p = panel.get();
        LoomPanel without = panel.get();
        act(p, act, x, y, n, want);
        String call = "act(" + act + ", " + x + ", " + y + ", " + n + ")";
        same("count(1) after " + call, p.count(1), without.count(1) + 1);
        same("count(2) after " + call, p.count(2), -10 - want);
        holds(call + " changes nothing", Panels.seen(p).equals(Panels.seen(without)));
    }

    void end() {
        endSentence();
        System.out.println(about + ": " + asked + " answers, " + wrong + " wrong");
        if (wrong != 0) {
            System.exit(1);
        }
    }
}
