import java.io.IOException;
import java.lang.reflect.Constructor;
import java.lang.reflect.Field;
import java.lang.reflect.Method;
import java.lang.reflect.Modifier;
import java.nio.file.Files;
import java.nio.file.Path;
import java.util.List;
import java.util.Set;
import java.util.TreeSet;
import java.util.regex.Matcher;
import java.util.regex.Pattern;

/** The public face of the document, and those rules of LANGUAGE.md that a look at the class can find broken. */
public final class LanguageTest {
    private static final Check CHECK = new Check();
    private static final String[] FACE = {
        "int feed(int,int,int,int,int)", "boolean end(int)", "int sea()", "int fault(int)", "int has(int)",
        "int letter(int,int,int)", "int moon(int,int)", "int harbor(int,int)", "int bids(int,int,int)",
        "int pull(int,int)", "int height(int,int)", "int ahead(int,int,int)", "int broken(int)", "int stranded(int,int)",
        "int bid(int,int,int)", "boolean give(int,int,int)", "int soothe(int,int)", "int hours(int)", "int storms(int)",
        "boolean undo()", "boolean seed(int)", "int wished(int,int,int)", "int rest(int)", "int across(int,int,int)",
        "int latest(int,int,int)", "int meet(int)", "int see()", "int payers(int)", "int image()", "int octet(int)",
        "boolean on()", "int status(int)"};

    public static void main(String[] args) throws IOException {
        face();
        names();
        List<String> lines = Files.readAllLines(Path.of("src/main/java/MoonTender.java"));
        words(lines);
        lengths(lines);
        CHECK.finish("LanguageTest");
    }

    private static String told(Method m) {
        StringBuilder s = new StringBuilder(m.getReturnType().getName() + " " + m.getName() + "(");
        for (Class<?> type : m.getParameterTypes()) {
            s.append(s.charAt(s.length() - 1) == '(' ? "" : ",").append(type.getName());
        }
        return s + ")";
    }

    private static void face() {
        Set<String> due = new TreeSet<>(List.of(FACE));
        Set<String> got = new TreeSet<>();
        for (Method m : MoonTender.class.getDeclaredMethods()) {
            if (Modifier.isPublic(m.getModifiers())) {
                got.add(told(m));
            } else {
                CHECK.due(m.getName() + " is private", Modifier.isPrivate(m.getModifiers()), true);
            }
        }
        CHECK.due("the public methods " + got, got.equals(due), true);
        Set<String> constants = new TreeSet<>();
        for (Field f : MoonTender.class.getDeclaredFields()) {
            if (Modifier.isPublic(f.getModifiers())) {
                constants.add(f.getName());
            } else {
                CHECK.due(f.getName() + " is private", Modifier.isPrivate(f.getModifiers()), true);
            }
        }
        CHECK.due("the public constants " + constants, constants.equals(Set.of("NONE", "NOTHING")), true);
        CHECK.due("NONE", MoonTender.NONE, -1);
        CHECK.due("NOTHING", MoonTender.NOTHING, -1000000000);
        Constructor<?>[] constructors = MoonTender.class.getDeclaredConstructors();
        CHECK.due("constructors", constructors.length, 1);
        CHECK.due("the constructor is public", Modifier.isPublic(constructors[0].getModifiers()), true);
        CHECK.due("the class is final", Modifier.isFinal(MoonTender.class.getModifiers()), true);
    }

    private static void names() {
        Set<String> open = new TreeSet<>();
        for (Method m : MoonTender.class.getMethods()) {
            open.add(m.getName());
        }
        Class<?>[] inside = MoonTender.class.getDeclaredClasses();
        CHECK.due("at most twelve classes: " + (inside.length + 1), inside.length + 1 <= 12, true);
        for (Class<?> c : inside) {
            CHECK.due(c.getName() + " is static", Modifier.isStatic(c.getModifiers()), true);
            fields(c);
            for (Method m : c.getDeclaredMethods()) {
                CHECK.due(c.getName() + "." + m.getName() + " bears a public method's name", open.contains(m.getName()), false);
                CHECK.due(c.getName() + "." + m.getName() + " takes seven at most", m.getParameterCount() <= 7, true);
            }
        }
        fields(MoonTender.class);
        for (Method m : MoonTender.class.getDeclaredMethods()) {
            if (Modifier.isPrivate(m.getModifiers())) {
                CHECK.due(m.getName() + " bears a public method's name", open.contains(m.getName()), false);
            }
        }
    }

    private static void fields(Class<?> c) {
        int own = 0;
        for (Field f : c.getDeclaredFields()) {
            if (Modifier.isStatic(f.getModifiers())) {
                CHECK.due(c.getName() + "." + f.getName() + " is final", Modifier.isFinal(f.getModifiers()), true);
            } else {
                own++;
            }
        }
        CHECK.due(c.getName() + " has twenty fields at most: " + own, own <= 20, true);
    }

    private static void words(List<String> lines) {
        Pattern banned = Pattern.compile("\\b(throw|throws|try|catch|synchronized|assert|package|protected|new Thread"
                + "|System\\.(?!arraycopy)|Objects|Random|Exception|\\w+Exact|yield|var|goto)\\b|->|::|@\\w");
        for (int i = 0; i < lines.size(); i++) {
            String line = lines.get(i).replaceAll("//.*|^\\s*(/?\\*).*|\"[^\"]*\"", "");
            Matcher m = banned.matcher(line);
            CHECK.due("line " + (i + 1) + " has a word that is not allowed: " + line, m.find(), false);
            if (line.startsWith("import")) {
                CHECK.due("import of Arrays alone", line.equals("import java.util.Arrays;"), true);
            }
            for (char c : lines.get(i).toCharArray()) {
                if (c > 127) {
                    CHECK.due("line " + (i + 1) + " has a sign above 127", c, 127);
                }
            }
        }
    }

    private static void lengths(List<String> lines) {
        int start = -1;
        String indent = "";
        for (int i = 0; i < lines.size(); i++) {
            String line = lines.get(i);
            Matcher m = Pattern.compile("^( {4}| {8})[a-z].*\\) \\{$").matcher(line);
            if (start < 0 && m.find() && !line.contains(" class ")) {
                start = i;
                indent = m.group(1);
            } else if (start >= 0 && line.equals(indent + "}")) {
                CHECK.due("method of some sixty lines at line " + (start + 1), i - start + 1 <= 60, true);
                start = -1;
            }
        }
    }
}
