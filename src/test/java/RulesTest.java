import java.io.IOException;
import java.lang.reflect.Field;
import java.lang.reflect.Method;
import java.lang.reflect.Modifier;
import java.nio.file.Files;
import java.nio.file.Path;
import java.util.ArrayList;
import java.util.Arrays;
import java.util.List;
import java.util.Set;
import java.util.TreeSet;
import java.util.regex.Pattern;

/** The public face of the document, and what of LANGUAGE.md can be seen in the class or its text. */
public final class RulesTest {
    private static final Due DUE = new Due("RulesTest");
    private static final Path SOURCE = Path.of("src/main/java/LoomPanel.java");
    private static final Set<String> FACE = Set.of("int row(int,int)", "int board(int,int)",
            "int wire(boolean,int)", "int set(int,int,long)", "long number(int,int)",
            "int act(int,int,int,int)", "int step(int,int,int,int)", "int play(int,int)",
            "int stopped()", "int empty(int)", "int is(int,int)", "int views(int)",
            "int size(int)", "int count(int)", "int clear()");

    public static void main(String[] args) throws IOException {
        constants();
        face();
        nestedClasses();
        staticFields();
        words();
        methodLengths();
        fieldCounts();
        everyCallWithEdges();
        DUE.end();
    }

    private static void constants() {
        DUE.same("NONE", LoomPanel.NONE, -1);
        DUE.same("ITSELF", LoomPanel.ITSELF, -2);
        DUE.same("BAD", LoomPanel.BAD, -3);
        DUE.same("ROOM", LoomPanel.ROOM, -4);
    }

    private static void face() {
        Set<String> seen = new TreeSet<>();
        Set<String> names = new TreeSet<>();
        List<Method> hidden = new ArrayList<>();
        for (Method m : LoomPanel.class.getDeclaredMethods()) {
            if (Modifier.isPrivate(m.getModifiers())) {
                hidden.add(m);
                continue;
            }
            names.add(m.getName());
            seen.add(signature(m));
            DUE.holds(m + " is public and not static", m.getModifiers() == Modifier.PUBLIC);
        }
        DUE.holds("the methods are those of the face: " + seen, seen.equals(FACE));
        for (Class<?> c : LoomPanel.class.getDeclaredClasses()) {
            hidden.addAll(Arrays.asList(c.getDeclaredMethods()));
        }
        for (Method m : hidden) {
            DUE.holds(m + " bears no public name", !names.contains(m.getName()));
            DUE.holds(m + " has at most seven parameters", m.getParameterCount() <= 7);
        }
        DUE.same("constructors", LoomPanel.class.getDeclaredConstructors().length, 1);
        DUE.same("public constructors", LoomPanel.class.getConstructors().length, 1);
        DUE.holds("the class is public and final",
                LoomPanel.class.getModifiers() == (Modifier.PUBLIC | Modifier.FINAL));
    }

    private static String signature(Method m) {
        StringBuilder text = new StringBuilder();
        text.append(m.getReturnType().getName()).append(' ').append(m.getName()).append('(');
        String comma = "";
        for (Class<?> p : m.getParameterTypes()) {
            text.append(comma).append(p.getName());
            comma = ",";
        }
        return text.append(')').toString();
    }

    private static void nestedClasses() {
        Class<?>[] nested = LoomPanel.class.getDeclaredClasses();
        DUE.holds("at most some twelve classes", nested.length <= 11);
        for (Class<?> c : nested) {
            DUE.holds(c + " is static", Modifier.isStatic(c.getModifiers()));
            DUE.holds(c + " is not public", !Modifier.isPublic(c.getModifiers()));
        }
    }

    private static void staticFields() {
        Set<String> open = new TreeSet<>();
        for (Field f : LoomPanel.class.getDeclaredFields()) {
            int m = f.getModifiers();
            if (Modifier.isStatic(m)) {
                DUE.holds(f + " is final", Modifier.isFinal(m));
            }
            if (!Modifier.isPrivate(m)) {
                open.add(f.getName());
            }
        }
        DUE.holds("no field is open but the constants: " + open,
                open.equals(Set.of("NONE", "ITSELF", "BAD", "ROOM")));
    }

    private static void words() throws IOException {
        String text = Files.readString(SOURCE);
        String code = text.replaceAll("(?s)/\\*.*?\\*/", " ").replaceAll("//[^\n]*", " ");
        for (String word : new String[] {"throw", "throws", "try", "catch", "synchronized", "assert",
            "import", "package", "native", "->", "::", "equals", "hashCode", "toString"}) {
            boolean letters = Character.isLetter(word.charAt(0));
            String edge = letters ? "\\b" : "";
            DUE.holds("there is no " + word,
                    !Pattern.compile(edge + Pattern.quote(word) + edge).matcher(code).find());
        }
    }

    /** By the indent of the line that opens a method and of the brace that closes it. */
    private static void methodLengths() throws IOException {
        List<String> lines = Files.readAllLines(SOURCE);
        Pattern opening = Pattern.compile("( {4}| {8})[a-z].*\\) \\{");
        int methods = 0;
        for (int at = 0; at < lines.size(); at++) {
            if (opening.matcher(lines.get(at)).matches()) {
                String first = lines.get(at);
                String brace = first.substring(0, first.length() - first.stripLeading().length()) + "}";
                int length = 1 + lines.subList(at, lines.size()).indexOf(brace);
                DUE.holds("at most sixty lines: " + first.strip(), length >= 1 && length <= 60);
                methods++;
            }
        }
        DUE.holds("methods were found: " + methods, methods > FACE.size());
    }

    private static void fieldCounts() {
        List<Class<?>> classes = new ArrayList<>(Arrays.asList(LoomPanel.class.getDeclaredClasses()));
        classes.add(LoomPanel.class);
        for (Class<?> c : classes) {
            int fields = 0;
            for (Field f : c.getDeclaredFields()) {
                fields += Modifier.isStatic(f.getModifiers()) ? 0 : 1;
            }
            DUE.holds(c + " has at most twenty fields", fields <= 20);
        }
    }

    /** No call may throw, for any arguments in any state; that it answers is enough here. */
    private static void everyCallWithEdges() {
        int[] edges = {Integer.MIN_VALUE, -11, -4, -3, -2, -1, 0, 1, 2, 3, 5, 6, 8, 9, 11, 12, 13,
            59, 60, Integer.MAX_VALUE};
        LoomPanel p = new LoomPanel();
        int calls = 0;
        for (int a : edges) {
            for (int b : edges) {
                for (int c : edges) {
                    calls += 12;
                    p.row(a, b);
                    p.board(a, b);
                    p.wire(b > c, a);
                    p.set(a, b, c);
                    p.number(a, b);
                    p.act(a, b, c, a);
                    p.act(b, c, a, c);
                    p.step(a, b, c, b);
                    p.play(a, b);
                    p.is(a, b);
                    p.views(a);
                    p.size(a);
                    if (calls % 240 == 0) {
                        p.stopped();
                        p.count(a);
                        p.empty(a);
                        p.clear();
                    }
                    if (calls % 480 == 0) {
                        p = new LoomPanel();
                    }
                }
            }
        }
        DUE.holds("every call answered", calls > 0);
    }
}
