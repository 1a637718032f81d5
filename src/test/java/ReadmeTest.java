import java.io.IOException;
import java.lang.reflect.Method;
import java.nio.file.Files;
import java.nio.file.Path;
import java.util.ArrayList;
import java.util.List;
import java.util.Set;
import java.util.TreeSet;
import java.util.regex.Matcher;
import java.util.regex.Pattern;
import java.util.stream.Stream;

/** What README.md tells of the class is what the class answers and what the document says. */
public final class ReadmeTest implements Names {
    private static final Due DUE = new Due("ReadmeTest");
    private static final Path DOCUMENT = Path.of("../shared/DOC.md");
    private static final Pattern CALL =
            Pattern.compile("panel\\.(\\w+)\\((.*?)\\);\\s*// (-?\\d+)(:.*)?");
    private static final List<String> FORM_NAMES = List.of("BYTES", "INTS", "LONGS", "GRID", "WIRE",
            "LIVE", "CABLE", "LIVE CABLE", "PLUGS", "LOOM", "LIVE LOOM", "PLUG");

    private final List<String> lines;
    private final String document;

    private ReadmeTest(List<String> lines, String document) {
        this.lines = lines;
        this.document = document;
    }

    public static void main(String[] args) throws Exception {
        // A tree without the document can still have its examples tested.
        String document = Files.isReadable(DOCUMENT)
                ? Files.readString(DOCUMENT).replaceAll("\\s+", " ") : "";
        ReadmeTest test = new ReadmeTest(Files.readAllLines(Path.of("README.md")), document);
        test.examples();
        test.calls();
        test.forms();
        test.acts();
        test.readings();
        test.testsAreTold();
        DUE.end();
    }

    /** Each line of an example is a new panel, or a call with its answer behind it. */
    private void examples() throws ReflectiveOperationException {
        LoomPanel panel = null;
        boolean inside = false;
        int made = 0;
        Set<String> used = new TreeSet<>();
        for (String line : lines) {
            if (line.startsWith("```")) {
                inside = line.equals("```java");
            } else if (inside && line.equals("LoomPanel panel = new LoomPanel();")) {
                panel = new LoomPanel();
            } else if (inside) {
                Matcher call = CALL.matcher(line);
                boolean told = call.matches() && panel != null;
                DUE.holds("a call with its answer: " + line, told);
                if (told) {
                    DUE.same(line, answer(panel, call.group(1), call.group(2)),
                            Long.parseLong(call.group(3)));
                    used.add(call.group(1));
                    made++;
                }
            }
        }
        DUE.holds("most of the face is shown: " + used, made >= 20 && used.size() >= 12);
    }

    private static long answer(LoomPanel panel, String name, String told)
            throws ReflectiveOperationException {
        String[] words = told.isEmpty() ? new String[0] : told.split(", ");
        for (Method m : LoomPanel.class.getMethods()) {
            if (m.getName().equals(name) && m.getParameterCount() == words.length) {
                Object[] with = new Object[words.length];
                for (int i = 0; i < words.length; i++) {
                    with[i] = argument(m.getParameterTypes()[i], words[i]);
                }
                return ((Number) m.invoke(panel, with)).longValue();
            }
        }
        throw new NoSuchMethodException(name + " of " + words.length);
    }

    private static Object argument(Class<?> type, String word) throws ReflectiveOperationException {
        if (type == boolean.class) {
            return Boolean.valueOf(word);
        }
        long number = word.startsWith("LoomPanel.")
                ? LoomPanel.class.getField(word.substring("LoomPanel.".length())).getInt(null)
                : Long.parseLong(word);
        if (type == int.class) {
            return (int) number;
        }
        return number;
    }

    /** The rows of the table whose first column is headed so, without head and rule. */
    private List<String[]> table(String head) {
        List<String[]> rows = new ArrayList<>();
        boolean inside = false;
        for (String line : lines) {
            if (line.startsWith("| " + head + " |")) {
                inside = true;
            } else if (!line.startsWith("|")) {
                inside = false;
            } else if (inside && !line.startsWith("|---")) {
                String[] cells = line.substring(1).split("\\|");
                for (int i = 0; i < cells.length; i++) {
                    cells[i] = cells[i].strip();
                }
                rows.add(cells);
            }
        }
        return rows;
    }

    private void stands(String words) {
        DUE.holds("the document has: " + words, document.isEmpty() || document.contains(words));
    }

    private void calls() {
        List<String[]> rows = table("call");
        DUE.same("calls that are told", rows.size(), 15);
        String plain = document.replaceAll("\\b(int|long|boolean) ", "");
        for (String[] row : rows) {
            String call = row[0].replace("`", "");
            DUE.holds("the face has " + call, document.isEmpty() || plain.contains("public " + call + ";"));
        }
    }

    private void forms() {
        List<String[]> rows = table("form");
        DUE.same("forms that are told", rows.size(), 11);
        for (int form = 0; form < rows.size(); form++) {
            String[] row = rows.get(form);
            DUE.holds(row[1] + " is form " + form,
                    row[0].equals("" + form) && row[1].equals(FORM_NAMES.get(form)));
            stands(form + " " + row[1]);
            int views = 1 << form;
            for (String name : row.length < 4 ? new String[0] : row[3].split(", ")) {
                views |= name.isEmpty() ? 0 : 1 << viewNamed(name);
            }
            DUE.same("views of " + row[1], Panels.ofEachForm().views(form), views);
            if (row[2].endsWith(" or none")) {
                takes(form, viewNamed(row[2].substring(0, row[2].length() - " or none".length())));
            }
        }
    }

    private static int viewNamed(String name) {
        int view = FORM_NAMES.indexOf(name.startsWith("a ") ? name.substring(2) : name);
        DUE.holds("a view: " + name, view >= 0);
        return view;
    }

    private static void takes(int board, int view) {
        for (int y = NONE; y <= LIVE_LOOM; y++) {
            LoomPanel p = Panels.ofEachForm();
            boolean taken = p.act(LAY, board, y, 0) == board;
            DUE.holds(board + " takes " + y, taken == (y == NONE || p.is(y, view) == 1));
        }
    }

    private void acts() {
        List<String[]> rows = table("act");
        DUE.same("acts that are told", rows.size(), 13);
        for (int act = 0; act < rows.size(); act++) {
            DUE.holds("act " + act, rows.get(act)[0].equals("" + act));
            stands(act + " " + rows.get(act)[1] + ":");
        }
        String faults = "1 CAST, 2 NULL, 3 INDEX, 4 STORE, 5 SIZE, 6 FULL";
        stands(faults);
        DUE.holds("the faults are told", text(0, lines.size()).contains(faults));
    }

    /** What is quoted there stands in the document. */
    private void readings() {
        int from = lines.indexOf("### How the document was read");
        int to = lines.indexOf("## Tests");
        DUE.holds("the readings are told", from >= 0 && to > from);
        if (from >= 0 && to > from) {
            Matcher quote = Pattern.compile("\"(.*?)\"").matcher(text(from, to));
            int quotes = 0;
            while (quote.find()) {
                stands(quote.group(1));
                quotes++;
            }
            DUE.holds("quotes were found: " + quotes, quotes >= 4);
        }
        String ofCalls = "An object is used for at most 512 calls after it has been made; "
                + "what later calls answer is free.";
        stands(ofCalls);
        DUE.holds("the last call is told", text(0, lines.size()).contains(ofCalls));
    }

    private String text(int from, int to) {
        return String.join(" ", lines.subList(from, to)).replaceAll("\\s+", " ");
    }

    private void testsAreTold() throws IOException {
        Set<String> told = new TreeSet<>();
        for (String[] row : table("test")) {
            told.add(row[0].replace("`", ""));
        }
        Set<String> found = new TreeSet<>();
        try (Stream<Path> files = Files.list(Path.of("src/test/java"))) {
            files.map(f -> f.getFileName().toString()).filter(f -> f.endsWith("Test.java"))
                    .forEach(f -> found.add(f.substring(0, f.length() - ".java".length())));
        }
        DUE.holds("the tests are told: " + told + ", there are " + found, told.equals(found));
    }
}
