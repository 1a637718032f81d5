import java.io.DataInputStream;
import java.io.IOException;
import java.lang.reflect.Field;
import java.lang.reflect.Method;
import java.lang.reflect.Modifier;
import java.nio.file.Files;
import java.nio.file.Path;
import java.util.ArrayList;
import java.util.Arrays;
import java.util.List;
import java.util.Map;
import java.util.Set;
import java.util.TreeMap;
import java.util.TreeSet;
import java.util.regex.Matcher;
import java.util.regex.Pattern;

/** The public face of the document, and what of LANGUAGE.md can be seen in the class or its text. */
public final class RulesTest {
    private static final Due DUE = new Due("RulesTest");
    private static final Path SOURCE = Path.of("src/main/java/LoomPanel.java");
    private static final Set<String> FACE = Set.of("int row(int,int)", "int board(int,int)",
            "int wire(boolean,int)", "int set(int,int,long)", "long number(int,int)",
            "int act(int,int,int,int)", "int step(int,int,int,int)", "int play(int,int)",
            "int stopped()", "int empty(int)", "int is(int,int)", "int views(int)",
            "int size(int)", "int count(int)", "int clear()");

    public static void main(String[] args) throws IOException {
        constants();
        face();
        nestedClasses();
        staticFields();
        words();
        library();
        loops();
        newObjects();
        methodLengths();
        callDepth();
        fieldCounts();
        everyCallWithEdges();
        DUE.end();
    }

    private static void constants() {
        DUE.same("NONE", LoomPanel.NONE, -1);
        DUE.same("ITSELF", LoomPanel.ITSELF, -2);
        DUE.same("BAD", LoomPanel.BAD, -3);
        DUE.same("ROOM", LoomPanel.ROOM, -4);
    }

    private static void face() {
        Set<String> seen = new TreeSet<>();
        Set<String> names = new TreeSet<>();
        List<Method> hidden = new ArrayList<>();
        for (Method m : LoomPanel.class.getDeclaredMethods()) {
            if (Modifier.isPrivate(m.getModifiers())) {
                hidden.add(m);
                continue;
            }
            names.add(m.getName());
            seen.add(signature(m));
            DUE.holds(m + " is public and not static", m.getModifiers() == Modifier.PUBLIC);
        }
        DUE.holds("the methods are those of the face: " + seen, seen.equals(FACE));
        for (Class<?> c : LoomPanel.class.getDeclaredClasses()) {
            hidden.addAll(Arrays.asList(c.getDeclaredMethods()));
        }
        for (Method m : hidden) {
            DUE.holds(m + " bears no public name", !names.contains(m.getName()));
            DUE.holds(m + " has at most seven parameters", m.getParameterCount() <= 7);
        }
        DUE.same("constructors", LoomPanel.class.getDeclaredConstructors().length, 1);
        DUE.same("public constructors", LoomPanel.class.getConstructors().length, 1);
        DUE.holds("the class is public and final",
                LoomPanel.class.getModifiers() == (Modifier.PUBLIC | Modifier.FINAL));
    }

    private static String signature(Method m) {
        StringBuilder text = new StringBuilder();
        text.append(m.getReturnType().getName()).append(' ').append(m.getName()).append('(');
        String comma = "";
        for (Class<?> p : m.getParameterTypes()) {
            text.append(comma).append(p.getName());
            comma = ",";
        }
        return text.append(')').toString();
    }

    private static void nestedClasses() {
        Class<?>[] nested = LoomPanel.class.getDeclaredClasses();
        DUE.holds("at most some twelve classes", nested.length <= 11);
        for (Class<?> c : nested) {
            DUE.holds(c + " is static", Modifier.isStatic(c.getModifiers()));
            DUE.holds(c + " is not public", !Modifier.isPublic(c.getModifiers()));
        }
    }

    private static void staticFields() {
        Set<String> open = new TreeSet<>();
        for (Class<?> c : classes()) {
            for (Field f : c.getDeclaredFields()) {
                int m = f.getModifiers();
                if (Modifier.isStatic(m)) {
                    DUE.holds(f + " is final", Modifier.isFinal(m));
                    DUE.holds(f + " is a number", f.getType() == int.class);
                }
                if (!Modifier.isPrivate(m)) {
                    open.add(f.getName());
                }
            }
        }
        DUE.holds("no field is open but the constants: " + open,
                open.equals(Set.of("NONE", "ITSELF", "BAD", "ROOM")));
    }

    private static List<Class<?>> classes() {
        List<Class<?>> all = new ArrayList<>(Arrays.asList(LoomPanel.class.getDeclaredClasses()));
        all.add(LoomPanel.class);
        return all;
    }

    /** The text without its comments; the lines stay where they were. */
    private static String code() throws IOException {
        Matcher comment = Pattern.compile("(?s)/\\*.*?\\*/|//[^\n]*").matcher(Files.readString(SOURCE));
        return comment.replaceAll(c -> c.group().replaceAll("[^\n]", ""));
    }

    private static void words() throws IOException {
        String code = code();
        for (String word : new String[] {"throw", "throws", "try", "catch", "synchronized", "assert",
            "import", "package", "native", "->", "::", "equals", "hashCode", "toString"}) {
            boolean letters = Character.isLetter(word.charAt(0));
            String edge = letters ? "\\b" : "";
            DUE.holds("there is no " + word,
                    !Pattern.compile(edge + Pattern.quote(word) + edge).matcher(code).find());
        }
    }

    /** The compiled classes name no class but each other and Object: no library is used. */
    private static void library() throws IOException {
        for (Class<?> c : classes()) {
            String file = c.getName() + ".class";
            try (DataInputStream in = new DataInputStream(c.getResourceAsStream(file))) {
                for (String named : namedClasses(in)) {
                    DUE.holds(file + " may use " + named, named.startsWith("LoomPanel")
                            || named.equals("java/lang/Object"));
                }
            }
        }
    }

    /** The names behind the class entries (tag 7) of a class file's constants. */
    private static Set<String> namedClasses(DataInputStream in) throws IOException {
        in.skipBytes(8);
        int constants = in.readUnsignedShort();
        String[] texts = new String[constants];
        List<Integer> classes = new ArrayList<>();
        for (int at = 1; at < constants; at++) {
            int tag = in.readUnsignedByte();
            switch (tag) {
                case 1: texts[at] = in.readUTF(); break;
                case 7: classes.add(in.readUnsignedShort()); break;
                case 8: case 16: case 19: case 20: in.skipBytes(2); break;
                case 15: in.skipBytes(3); break;
                case 5: case 6:
                    in.skipBytes(8);
                    // A long constant has two numbers.
                    at++;
                    break;
                default: in.skipBytes(4);
            }
        }
        Set<String> named = new TreeSet<>();
        classes.forEach(at -> named.add(texts[at]));
        return named;
    }

    /** Each loop counts up to a bound. */
    private static void loops() throws IOException {
        Pattern counted = Pattern.compile("for \\(int (\\w+) = 0; \\1 < \\w+; \\1\\+\\+\\) \\{");
        int found = 0;
        for (String line : code().split("\n")) {
            DUE.holds("no other loop: " + line, !line.matches(".*\\b(while|do)\\b.*"));
            if (line.matches(".*\\bfor\\b.*")) {
                DUE.holds("a counted loop: " + line, counted.matcher(line.strip()).matches());
                found++;
            }
        }
        DUE.holds("loops were found: " + found, found > 0);
    }

    /** Rows are made with the object, and none later. */
    private static void newObjects() throws IOException {
        for (Map.Entry<String, String> method : methods().entrySet()) {
            DUE.holds(method.getKey() + " makes nothing", method.getKey().equals("LoomPanel")
                    || !method.getValue().matches("(?s).*\\bnew\\b.*"));
        }
    }

    /** The text of each method by its name; those of one name in several classes stand together. */
    private static Map<String, String> methods() throws IOException {
        List<String> lines = Arrays.asList(code().split("\n"));
        Pattern opening = Pattern.compile("( {4}| {8})[a-z].*?(\\w+)\\([^()]*\\) \\{");
        Map<String, String> methods = new TreeMap<>();
        for (int at = 0; at < lines.size(); at++) {
            Matcher first = opening.matcher(lines.get(at));
            if (first.matches() && !first.group(2).matches("if|for|switch")) {
                int end = at + lines.subList(at, lines.size()).indexOf(first.group(1) + "}");
                DUE.holds("it has an end: " + lines.get(at), end > at);
                DUE.holds("at most sixty lines: " + lines.get(at).strip(), end - at < 60);
                String body = String.join("\n", lines.subList(at + 1, Math.max(at + 1, end)));
                methods.merge(first.group(2), body, (one, other) -> one + "\n" + other);
            }
        }
        return methods;
    }

    private static void methodLengths() throws IOException {
        Set<String> names = methods().keySet();
        DUE.holds("methods were found: " + names, names.size() > FACE.size());
    }

    /** No method comes to be called by itself, and calls go at most eight deep. */
    private static void callDepth() throws IOException {
        Map<String, String> methods = methods();
        for (String name : methods.keySet()) {
            int depth = depth(methods, name, 1);
            DUE.holds("calls of " + name + " go " + depth + " deep", depth <= 8);
        }
    }

    private static int depth(Map<String, String> methods, String name, int above) {
        int deepest = 1;
        Matcher call = Pattern.compile("\\b(\\w+)\\(").matcher(methods.get(name));
        while (call.find() && above < 12) {
            if (methods.containsKey(call.group(1))) {
                deepest = Math.max(deepest, 1 + depth(methods, call.group(1), above + 1));
            }
        }
        return deepest;
    }

    private static void fieldCounts() {
        for (Class<?> c : classes()) {
            int fields = 0;
            for (Field f : c.getDeclaredFields()) {
                fields += Modifier.isStatic(f.getModifiers()) ? 0 : 1;
            }
            DUE.holds(c + " has at most twenty fields", fields <= 20);
        }
    }

    /** No call may throw, for any arguments in any state; that it answers is enough here. */
    private static void everyCallWithEdges() {
        int[] edges = {Integer.MIN_VALUE, -11, -4, -3, -2, -1, 0, 1, 2, 3, 5, 6, 8, 9, 11, 12, 13,
            59, 60, Integer.MAX_VALUE};
        LoomPanel p = new LoomPanel();
        int calls = 0;
        for (int a : edges) {
            for (int b : edges) {
                for (int c : edges) {
                    calls += 12;
                    p.row(a, b);
                    p.board(a, b);
                    p.wire(b > c, a);
                    p.set(a, b, c);
                    p.number(a, b);
                    p.act(a, b, c, a);
                    p.act(b, c, a, c);
                    p.step(a, b, c, b);
                    p.play(a, b);
                    p.is(a, b);
                    p.views(a);
                    p.size(a);
                    if (calls % 240 == 0) {
                        p.stopped();
                        p.count(a);
                        p.empty(a);
                        p.clear();
                    }
                    if (calls % 480 == 0) {
                        p = new LoomPanel();
                    }
                }
            }
        }
        DUE.holds("every call answered", calls > 0);
    }
}
