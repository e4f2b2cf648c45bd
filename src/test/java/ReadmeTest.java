import java.io.File;
import java.io.IOException;
import java.nio.file.Files;
import java.nio.file.Path;
import java.util.ArrayList;
import java.util.List;
import java.util.Set;
import java.util.TreeSet;
import java.util.regex.Matcher;
import java.util.regex.Pattern;
import java.util.stream.Stream;

/** What README.md says, tried: its example, its commands, its tables. */
public final class ReadmeTest {
    private static final Check CHECK = new Check();
    private static final String CLASS = "src/main/java/MoonTender.java";

    public static void main(String[] args) throws IOException, InterruptedException {
        String page = Files.readString(Path.of("README.md"));
        Path work = Files.createTempDirectory("readme");
        try {
            example(page, work);
            commands(page, work);
        } finally {
            remove(work);
        }
        calls(page);
        insideClasses(page);
        tests(page);
        CHECK.finish("ReadmeTest");
    }

    private static void remove(Path work) throws IOException {
        List<Path> paths = new ArrayList<>();
        try (Stream<Path> all = Files.walk(work)) {
            all.forEach(paths::add);
        }
        for (int k = paths.size() - 1; k >= 0; k--) {
            Files.delete(paths.get(k));
        }
    }

    private static List<String> blocks(String page, String kind) {
        List<String> found = new ArrayList<>();
        Matcher m = Pattern.compile("```" + kind + "\n(.*?)```", Pattern.DOTALL).matcher(page);
        while (m.find()) {
            found.add(m.group(1));
        }
        return found;
    }

    private static int run(Path out, String... command) throws IOException, InterruptedException {
        return new ProcessBuilder(command).redirectErrorStream(true).redirectOutput(out.toFile()).start().waitFor();
    }

    /** Each line of the example that tells a value behind // must answer it. */
    private static void example(String page, Path work) throws IOException, InterruptedException {
        List<String> found = blocks(page, "java");
        CHECK.due("examples", found.size(), 1);
        StringBuilder program = new StringBuilder("public final class Tried {\npublic static void main(String[] args) {\n");
        program.append(found.get(0));
        List<String> due = new ArrayList<>();
        Matcher m = Pattern.compile("(?m)^(?:int|boolean) (\\w+) = .*; +// (-?\\d+|true|false)\\b").matcher(found.get(0));
        while (m.find()) {
            program.append("System.out.println(\"").append(m.group(1)).append(" \" + ").append(m.group(1)).append(");\n");
            due.add(m.group(1) + " " + m.group(2));
        }
        program.append("}\n}\n");
        Path source = work.resolve("Tried.java");
        Files.writeString(source, program);
        Path out = work.resolve("tried.txt");
        CHECK.due("the example compiles", run(out, "javac", "-nowarn", "-d", work.toString(), CLASS, source.toString()), 0);
        CHECK.due("the example runs", run(out, "java", "-cp", work.toString(), "Tried"), 0);
        List<String> got = Files.readAllLines(out);
        CHECK.due("values told: " + due.size(), due.size() >= 10, true);
        for (int k = 0; k < due.size(); k++) {
            String answered = k < got.size() ? got.get(k) : "nothing";
            CHECK.due("README has " + due.get(k) + ", the class " + answered, answered.equals(due.get(k)), true);
        }
    }

    private static void commands(String page, Path work) throws IOException, InterruptedException {
        List<String> found = blocks(page, "sh");
        CHECK.due("blocks of commands", found.size(), 3);
        for (String block : found) {
            for (String line : block.split("\n")) {
                if (line.equals(".ci/run")) {
                    // it runs this test, so it is not run by it
                    CHECK.due(line + " can be run", Files.isExecutable(Path.of(line)), true);
                } else {
                    Path out = work.resolve("command.txt");
                    int code = run(out, line.replace("/tmp/out", work.resolve("out").toString()).split(" "));
                    CHECK.due("exit code of " + line, code, 0);
                }
            }
        }
    }

    /** The names between ` ` in the rows of the table that begins with this line. */
    private static Set<String> named(String page, String head, boolean lastColumn) {
        Set<String> names = new TreeSet<>();
        int from = page.indexOf(head);
        CHECK.due("README has the table " + head, from >= 0, true);
        int to = page.indexOf("\n\n", Math.max(0, from));
        for (String row : page.substring(Math.max(0, from), to < 0 ? page.length() : to).split("\n")) {
            String[] cells = row.split("\\|");
            if (cells.length > 2) {
                Matcher m = Pattern.compile("`(\\w+)`").matcher(cells[lastColumn ? 2 : 1]);
                while (m.find()) {
                    names.add(m.group(1));
                }
            }
        }
        return names;
    }

    private static void calls(String page) {
        Set<String> due = new TreeSet<>();
        for (java.lang.reflect.Method m : MoonTender.class.getDeclaredMethods()) {
            if (java.lang.reflect.Modifier.isPublic(m.getModifiers())) {
                due.add(m.getName());
            }
        }
        Set<String> got = named(page, "| to | there are |", true);
        CHECK.due("the calls " + got, got.equals(due), true);
    }

    private static void insideClasses(String page) {
        Set<String> due = new TreeSet<>();
        for (Class<?> c : MoonTender.class.getDeclaredClasses()) {
            due.add(c.getSimpleName());
        }
        Set<String> got = named(page, "| class inside | what it does |", false);
        CHECK.due("the classes inside " + got, got.equals(due), true);
    }

    private static void tests(String page) {
        Set<String> due = new TreeSet<>();
        String[] files = new File("src/test/java").list();
        for (String file : files == null ? new String[0] : files) {
            if (file.endsWith("Test.java")) {
                due.add(file.replace(".java", ""));
            } else {
                String name = file.replace(".java", "");
                CHECK.due(name + " is named", page.contains("`" + name + "`"), true);
            }
        }
        Set<String> got = named(page, "| test | promises |", false);
        CHECK.due("the tests " + got, got.equals(due), true);
    }
}
