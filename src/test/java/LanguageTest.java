import java.io.IOException;
import java.io.PrintWriter;
import java.io.StringWriter;
import java.lang.reflect.Constructor;
import java.lang.reflect.Field;
import java.lang.reflect.Method;
import java.lang.reflect.Modifier;
import java.nio.file.Files;
import java.nio.file.Path;
import java.util.ArrayList;
import java.util.HashMap;
import java.util.List;
import java.util.Map;
import java.util.Set;
import java.util.TreeMap;
import java.util.TreeSet;
import java.util.spi.ToolProvider;
import java.util.regex.Matcher;
import java.util.regex.Pattern;

/** The public face of the document, and those rules of LANGUAGE.md that a look at the class can find broken. */
public final class LanguageTest {
    private static final Check CHECK = new Check();
    private static final String[] FACE = {
        "int feed(int,int,int,int,int)", "boolean end(int)", "int sea()", "int fault(int)", "int has(int)",
        "int letter(int,int,int)", "int moon(int,int)", "int harbor(int,int)", "int bids(int,int,int)",
        "int pull(int,int)", "int height(int,int)", "int ahead(int,int,int)", "int broken(int)", "int stranded(int,int)",
        "int bid(int,int,int)", "boolean give(int,int,int)", "int soothe(int,int)", "int hours(int)", "int storms(int)",
        "boolean undo()", "boolean seed(int)", "int wished(int,int,int)", "int rest(int)", "int across(int,int,int)",
        "int latest(int,int,int)", "int meet(int)", "int see()", "int payers(int)", "int image()", "int octet(int)",
        "boolean on()", "int status(int)"};

    public static void main(String[] args) throws IOException {
        face();
        names();
        List<String> lines = Files.readAllLines(Path.of("src/main/java/MoonTender.java"));
        words(lines);
        lengths(lines);
        made(lines);
        depth();
        CHECK.finish("LanguageTest");
    }

    private static String told(Method m) {
        StringBuilder s = new StringBuilder(m.getReturnType().getName() + " " + m.getName() + "(");
        for (Class<?> type : m.getParameterTypes()) {
            s.append(s.charAt(s.length() - 1) == '(' ? "" : ",").append(type.getName());
        }
        return s + ")";
    }

    private static void face() {
        Set<String> due = new TreeSet<>(List.of(FACE));
        Set<String> got = new TreeSet<>();
        for (Method m : MoonTender.class.getDeclaredMethods()) {
            if (Modifier.isPublic(m.getModifiers())) {
                got.add(told(m));
            } else {
                CHECK.due(m.getName() + " is private", Modifier.isPrivate(m.getModifiers()), true);
            }
        }
        CHECK.due("the public methods " + got, got.equals(due), true);
        Set<String> constants = new TreeSet<>();
        for (Field f : MoonTender.class.getDeclaredFields()) {
            if (Modifier.isPublic(f.getModifiers())) {
                constants.add(f.getName());
            } else {
                CHECK.due(f.getName() + " is private", Modifier.isPrivate(f.getModifiers()), true);
            }
        }
        CHECK.due("the public constants " + constants, constants.equals(Set.of("NONE", "NOTHING")), true);
        CHECK.due("NONE", MoonTender.NONE, -1);
        CHECK.due("NOTHING", MoonTender.NOTHING, -1000000000);
        Constructor<?>[] constructors = MoonTender.class.getDeclaredConstructors();
        CHECK.due("constructors", constructors.length, 1);
        CHECK.due("the constructor is public", Modifier.isPublic(constructors[0].getModifiers()), true);
        CHECK.due("the class is final", Modifier.isFinal(MoonTender.class.getModifiers()), true);
    }

    private static void names() {
        Set<String> open = new TreeSet<>();
        for (Method m : MoonTender.class.getMethods()) {
            open.add(m.getName());
        }
        Class<?>[] inside = MoonTender.class.getDeclaredClasses();
        CHECK.due("at most twelve classes: " + (inside.length + 1), inside.length + 1 <= 12, true);
        for (Class<?> c : inside) {
            CHECK.due(c.getName() + " is static", Modifier.isStatic(c.getModifiers()), true);
            fields(c);
            for (Method m : c.getDeclaredMethods()) {
                CHECK.due(c.getName() + "." + m.getName() + " bears a public method's name", open.contains(m.getName()), false);
                CHECK.due(c.getName() + "." + m.getName() + " takes seven at most", m.getParameterCount() <= 7, true);
            }
        }
        fields(MoonTender.class);
        for (Method m : MoonTender.class.getDeclaredMethods()) {
            if (Modifier.isPrivate(m.getModifiers())) {
                CHECK.due(m.getName() + " bears a public method's name", open.contains(m.getName()), false);
            }
        }
    }

    private static void fields(Class<?> c) {
        int own = 0;
        for (Field f : c.getDeclaredFields()) {
            if (Modifier.isStatic(f.getModifiers())) {
                CHECK.due(c.getName() + "." + f.getName() + " is final", Modifier.isFinal(f.getModifiers()), true);
            } else {
                own++;
            }
        }
        CHECK.due(c.getName() + " has twenty fields at most: " + own, own <= 20, true);
    }

    private static void words(List<String> lines) {
        Pattern banned = Pattern.compile("\\b(throw|throws|try|catch|synchronized|assert|package|protected|new Thread"
                + "|System\\.(?!arraycopy)|Objects|Random|Exception|\\w+Exact|yield|var|goto)\\b|->|::|@\\w");
        for (int i = 0; i < lines.size(); i++) {
            String line = lines.get(i).replaceAll("//.*|^\\s*(/?\\*).*|\"[^\"]*\"", "");
            Matcher m = banned.matcher(line);
            CHECK.due("line " + (i + 1) + " has a word that is not allowed: " + line, m.find(), false);
            if (line.startsWith("import")) {
                CHECK.due("import of Arrays alone", line.equals("import java.util.Arrays;"), true);
            }
            for (char c : lines.get(i).toCharArray()) {
                if (c > 127) {
                    CHECK.due("line " + (i + 1) + " has a sign above 127", c, 127);
                }
            }
        }
    }

    private static void lengths(List<String> lines) {
        int start = -1;
        String indent = "";
        for (int i = 0; i < lines.size(); i++) {
            String line = lines.get(i);
            Matcher m = Pattern.compile("^( {4}| {8})[a-z].*\\) \\{$").matcher(line);
            if (start < 0 && m.find() && !line.contains(" class ")) {
                start = i;
                indent = m.group(1);
            } else if (start >= 0 && line.equals(indent + "}")) {
                CHECK.due("method of some sixty lines at line " + (start + 1), i - start + 1 <= 60, true);
                start = -1;
            }
        }
    }

    /** Objects and arrays are made with the fields that hold them, or in a constructor: no call makes one. */
    private static void made(List<String> lines) {
        Pattern field = Pattern.compile("^( {4}| {8})(private )?(static )?(final )?[\\w\\[\\]]+ \\w+ = new .*;$");
        for (int i = 0; i < lines.size(); i++) {
            String line = lines.get(i).replaceAll("//.*|^\\s*(/?\\*).*|\"[^\"]*\"", "");
            if (line.matches(".*\\bnew\\b.*")) {
                boolean ofField = field.matcher(line).find() && line.matches(" +(private|final) .*");
                boolean ofPast = line.strip().equals("ring[i] = new Moment();");
                CHECK.due("line " + (i + 1) + " makes an object in a call: " + line, ofField || ofPast, true);
            }
        }
    }

    /** Calls go at most eight deep, each ring of methods that call one another counted once. */
    private static void depth() {
        Map<String, Set<String>> calls = calls();
        CHECK.due("methods found: " + calls.size(), calls.size() > 100, true);
        Map<String, Set<String>> reached = new HashMap<>();
        for (String method : calls.keySet()) {
            reached.put(method, reachedFrom(method, calls));
        }
        Map<String, Integer> known = new HashMap<>();
        for (String method : calls.keySet()) {
            int deep = depthOf(method, calls, reached, known);
            CHECK.due(method + " goes " + deep + " deep", deep <= 8, true);
        }
    }

    private static Set<String> reachedFrom(String method, Map<String, Set<String>> calls) {
        Set<String> found = new TreeSet<>();
        List<String> open = new ArrayList<>(List.of(method));
        while (!open.isEmpty()) {
            for (String next : calls.getOrDefault(open.remove(open.size() - 1), Set.of())) {
                if (found.add(next)) {
                    open.add(next);
                }
            }
        }
        return found;
    }

    private static int depthOf(String method, Map<String, Set<String>> calls, Map<String, Set<String>> reached,
            Map<String, Integer> known) {
        if (known.containsKey(method)) {
            return known.get(method);
        }
        Set<String> ring = new TreeSet<>(Set.of(method));
        for (String other : reached.get(method)) {
            if (reached.get(other).contains(method)) {
                ring.add(other);
            }
        }
        int below = 0;
        for (String member : ring) {
            for (String next : calls.get(member)) {
                if (!ring.contains(next)) {
                    below = Math.max(below, depthOf(next, calls, reached, known));
                }
            }
        }
        known.put(method, below + 1);
        return below + 1;
    }

    /** Which methods of the class, and of those inside it, each of them calls, as javap tells. */
    private static Map<String, Set<String>> calls() {
        List<String> names = new ArrayList<>(List.of("MoonTender"));
        for (Class<?> c : MoonTender.class.getDeclaredClasses()) {
            names.add(c.getName());
        }
        Map<String, Set<String>> calls = new TreeMap<>();
        Pattern head = Pattern.compile("^  (?:\\w.* )?([\\w$]+)\\([^()]*\\);$");
        Pattern call = Pattern.compile("// (?:Interface)?Method (?:(MoonTender[\\w$]*)\\.)?\"?([\\w<>]+)\"?:");
        for (String name : names) {
            String method = "";
            for (String line : javap(name).split("\n")) {
                Matcher h = head.matcher(line);
                Matcher c = call.matcher(line);
                if (h.find()) {
                    method = name + "." + (h.group(1).equals(name) ? "<init>" : h.group(1));
                    calls.computeIfAbsent(method, key -> new TreeSet<>());
                } else if (c.find() && (c.group(1) != null || !line.contains("Method java"))) {
                    calls.get(method).add((c.group(1) == null ? name : c.group(1)) + "." + c.group(2));
                }
            }
        }
        return calls;
    }

    private static String javap(String name) {
        StringWriter out = new StringWriter();
        PrintWriter writer = new PrintWriter(out);
        ToolProvider tool = ToolProvider.findFirst("javap").orElseThrow();
        int code = tool.run(writer, writer, "-c", "-p", "-cp", System.getProperty("java.class.path"), name);
        CHECK.due("javap of " + name, code, 0);
        return out.toString();
    }
}
