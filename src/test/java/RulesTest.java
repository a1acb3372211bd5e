import java.io.IOException;
import java.io.PrintWriter;
import java.io.StringWriter;
import java.lang.management.ManagementFactory;
import java.lang.reflect.Constructor;
import java.lang.reflect.Field;
import java.lang.reflect.Method;
import java.lang.reflect.Modifier;
import java.nio.file.Files;
import java.nio.file.Path;
import java.util.ArrayList;
import java.util.List;
import java.util.Map;
import java.util.Set;
import java.util.TreeMap;
import java.util.TreeSet;
import java.util.regex.Matcher;
import java.util.regex.Pattern;
import java.util.spi.ToolProvider;

/** The face that the document tells, and the rules of LANGUAGE.md that a test can see. */
public final class RulesTest {
    private static final Check CHECK = new Check();

    public static void main(String[] args) throws IOException {
        Path project = Path.of(System.getProperty("project", "."));
        Path shared = Path.of(System.getProperty("shared", "../shared"));
        String source = Files.readString(project.resolve("src/main/java/HiredShade.java"));
        face(Files.readString(shared.resolve("DOC.md")));
        classes();
        words(plain(source));
        methods(source);
        depth();
        memory();
        CHECK.end();
    }

    private static List<Class<?>> all() {
        List<Class<?>> all = new ArrayList<>(List.of(HiredShade.class.getDeclaredClasses()));
        all.add(HiredShade.class);
        return all;
    }

    /** Rule 1: the document's block of Java, read line by line, and nothing else. */
    private static void face(String document) {
        Set<String> told = new TreeSet<>();
        Matcher line = Pattern.compile("    public (int|long) (\\w+)\\((.*)\\);").matcher(document);
        while (line.find()) {
            told.add(line.group(1) + " " + line.group(2) + "(" + line.group(3).replaceAll(" \\w+(,|$)", "$1") + ")");
        }
        Set<String> found = new TreeSet<>();
        for (Method m : HiredShade.class.getDeclaredMethods()) {
            if (!Modifier.isPrivate(m.getModifiers())) {
                StringBuilder types = new StringBuilder();
                for (Class<?> type : m.getParameterTypes()) {
                    types.append(types.length() == 0 ? "" : ", ").append(type);
                }
                found.add(m.getReturnType() + " " + m.getName() + "(" + types + ")");
                CHECK.holds("public: " + m, Modifier.isPublic(m.getModifiers()));
            }
        }
        CHECK.due("calls that the document tells", told.size(), 42);
        CHECK.holds("the calls are " + told + ", not " + found, told.equals(found));
        Set<String> constants = new TreeSet<>();
        for (Field f : HiredShade.class.getDeclaredFields()) {
            if (!Modifier.isPrivate(f.getModifiers())) {
                constants.add(f.toString());
            }
        }
        CHECK.due("constants", constants.size(), 5);
        Constructor<?>[] constructors = HiredShade.class.getDeclaredConstructors();
        CHECK.due("constructors", constructors.length, 1);
        CHECK.holds("it is public", Modifier.isPublic(constructors[0].getModifiers()));
        CHECK.holds("the class is public and final",
            (HiredShade.class.getModifiers() & (Modifier.PUBLIC | Modifier.FINAL)) == (Modifier.PUBLIC | Modifier.FINAL));
        CHECK.holds("no class above", HiredShade.class.getSuperclass() == Object.class);
    }

    /** Rules 1, 2, 5, 11. */
    private static void classes() {
        Set<String> publicNames = new TreeSet<>();
        for (Method m : HiredShade.class.getMethods()) {
            publicNames.add(m.getName());
        }
        CHECK.holds("some twelve classes", all().size() <= 12);
        for (Class<?> c : all()) {
            CHECK.holds("static: " + c, c == HiredShade.class || Modifier.isStatic(c.getModifiers()));
            int own = 0;
            for (Field f : c.getDeclaredFields()) {
                boolean isStatic = Modifier.isStatic(f.getModifiers());
                own += isStatic ? 0 : 1;
                CHECK.holds("final: " + f, !isStatic || Modifier.isFinal(f.getModifiers()));
                Class<?> type = f.getType();
                boolean constant = type.isPrimitive() || type == String.class || type == int[].class;
                CHECK.holds("a constant: " + f, !isStatic || constant);
            }
            CHECK.holds("some twenty fields: " + c, own <= 20);
            for (Method m : c.getDeclaredMethods()) {
                CHECK.holds("at most seven parameters: " + m, m.getParameterCount() <= 7);
                boolean face = c == HiredShade.class && Modifier.isPublic(m.getModifiers());
                CHECK.holds("no other bears a public name: " + m, face || !publicNames.contains(m.getName()));
            }
        }
    }

    private static String plain(String source) {
        return source.replaceAll("(?s)/\\*.*?\\*/", " ").replaceAll("//[^\n]*", " ").replaceAll("'.'", "0");
    }

    /** Rules 3, 4, 6, 13, and what no line may hold. */
    private static void words(String source) {
        String[] never = {"throw", "throws", "try", "catch", "finally", "synchronized", "assert", "volatile", "transient",
            "protected", "native", "strictfp", "package", "double", "float", "hashCode", "equals", "toString", "Random",
            "Object", "Exception", "Thread", "Exact", "var"};
        for (String word : never) {
            CHECK.holds("no " + word, !Pattern.compile("\\b" + word + "\\b").matcher(source).find());
        }
        CHECK.holds("no lambda", !source.contains("->"));
        CHECK.holds("no method reference", !source.contains("::"));
        CHECK.holds("no text joined", !source.contains("\""));
        CHECK.holds("no static block", !Pattern.compile("static\\s*\\{").matcher(source).find());
        Matcher calls = Pattern.compile("\\b([A-Z]\\w+)\\.([a-z]\\w*)\\(").matcher(source);
        Set<String> allowed = Set.of("Math.min", "Math.max", "Math.abs", "Integer.bitCount", "Arrays.fill",
            "System.arraycopy");
        while (calls.find()) {
            String call = calls.group(1) + "." + calls.group(2);
            CHECK.holds("of the library: " + call, allowed.contains(call));
        }
        Matcher imports = Pattern.compile("import ([\\w.*]+);").matcher(source);
        while (imports.find()) {
            CHECK.holds("import " + imports.group(1), imports.group(1).equals("java.util.Arrays"));
        }
    }

    /** Rule 11: methods stay short. The source is laid out so that a method's end stands under its beginning. */
    private static void methods(String source) {
        String[] lines = source.split("\n");
        int found = 0;
        for (int i = 0; i < lines.length; i++) {
            Matcher start = Pattern.compile("^( {4}| {8})(\\w[\\w\\[\\] ]* )?\\w+\\(.*\\) \\{$").matcher(lines[i]);
            if (!start.find()) {
                continue;
            }
            int end = i;
            while (end < lines.length && !lines[end].equals(start.group(1) + "}")) {
                end++;
            }
            found++;
            CHECK.holds("at most sixty lines: " + lines[i].trim(), end - i < 60);
        }
        CHECK.holds("methods were found", found > 100);
    }

    /** Rules 8 and 11: how deep calls go, a ring of methods that call one another counted once each. */
    private static void depth() {
        Map<String, Set<String>> calls = new TreeMap<>();
        for (Class<?> c : all()) {
            readCalls(c, calls);
        }
        CHECK.holds("methods were read", calls.size() > 150);
        Set<String> rings = new TreeSet<>();
        for (String method : calls.keySet()) {
            if (reached(method, calls).contains(method)) {
                rings.add(method);
            }
        }
        CHECK.holds("only the law's reader and the acts call themselves: " + rings, rings.equals(Set.of(
            "HiredShade$Law.readLevel", "HiredShade$Law.readOperand", "HiredShade$Trees.from", "HiredShade$Trees.own",
            "HiredShade$Trees.over", "HiredShade$Trees.run")));
        for (String method : calls.keySet()) {
            int deep = deepest(method, calls, new TreeSet<>());
            CHECK.holds("at most eight deep: " + method + " goes " + deep, deep <= 8);
        }
    }

    /** javap's listing names the method that each call goes to. */
    private static void readCalls(Class<?> c, Map<String, Set<String>> calls) {
        StringWriter listing = new StringWriter();
        String place = HiredShade.class.getProtectionDomain().getCodeSource().getLocation().getPath();
        ToolProvider.findFirst("javap").orElseThrow().run(new PrintWriter(listing), new PrintWriter(System.err),
            "-p", "-c", place + c.getName() + ".class");
        Pattern start = Pattern.compile("^  \\S.*?([\\w$]+)\\(.*\\);$");
        Pattern call = Pattern.compile("// Method (?:([\\w/$]+)\\.)?(\\w+):");
        String method = "";
        for (String line : listing.toString().split("\\R")) {
            Matcher starts = start.matcher(line);
            Matcher found = call.matcher(line);
            if (starts.find()) {
                method = c.getName() + "." + starts.group(1);
                calls.put(method, new TreeSet<>());
            } else if (found.find() && !method.isEmpty()) {
                String owner = found.group(1) == null ? c.getName() : found.group(1);
                calls.get(method).add(owner + "." + found.group(2));
            }
        }
    }

    private static Set<String> reached(String method, Map<String, Set<String>> calls) {
        Set<String> reached = new TreeSet<>();
        List<String> open = new ArrayList<>(calls.getOrDefault(method, Set.of()));
        while (!open.isEmpty()) {
            String next = open.remove(open.size() - 1);
            if (reached.add(next)) {
                open.addAll(calls.getOrDefault(next, Set.of()));
            }
        }
        return reached;
    }

    private static int deepest(String method, Map<String, Set<String>> calls, Set<String> above) {
        int most = 0;
        above.add(method);
        for (String next : calls.getOrDefault(method, Set.of())) {
            if (!above.contains(next)) {
                most = Math.max(most, deepest(next, calls, above));
            }
        }
        above.remove(method);
        return most + 1;
    }

    /** Rule 12: rows are made with the object, and no call makes another. */
    private static void memory() {
        HiredShade x = new HiredShade();
        dear(x);
        com.sun.management.ThreadMXBean bean = (com.sun.management.ThreadMXBean) ManagementFactory.getThreadMXBean();
        long id = Thread.currentThread().getId();
        bean.getThreadAllocatedBytes(id);
        long before = bean.getThreadAllocatedBytes(id);
        dear(x);
        long used = bean.getThreadAllocatedBytes(id) - before;
        CHECK.holds("calls make nothing, not " + used + " bytes", used < 4096);
    }

    private static void dear(HiredShade x) {
        for (int i = 0; i < 8; i++) {
            x.man(60 + i, i % 3);
            x.sitter(60 + i, 4095);
            x.mend(i, 3, i);
            x.feed('1');
        }
        x.law();
        x.row(0, 0, 60);
        x.row(1, 1, 60);
        x.shift(0, 0, 0, 1, 59);
        for (int what = 0; what < 5; what++) {
            x.enough(what);
            x.roster(12 - what);
            x.oneMore(what, 0);
            x.step(0, 0);
            x.judge(0, 0);
            x.stood(0, 0, what);
            x.who(0, 0, what);
            x.wish(1, 0);
            x.byTurns(0, 4, 0);
            x.drawn(1, 3000, -1);
            x.walk(0, what);
            x.at(12, 0);
            x.image();
            x.back();
            x.undo();
            x.redo();
            x.body(7);
            x.act(0, 3, 1);
            x.sitters(1, 0, 8);
        }
    }
}
