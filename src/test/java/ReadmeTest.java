import java.io.File;
import java.io.IOException;
import java.lang.reflect.Method;
import java.lang.reflect.Modifier;
import java.net.URL;
import java.net.URLClassLoader;
import java.nio.file.Files;
import java.nio.file.Path;
import java.util.ArrayList;
import java.util.List;
import java.util.Set;
import java.util.TreeSet;
import java.util.regex.Matcher;
import java.util.regex.Pattern;
import java.util.stream.Stream;
import javax.tools.ToolProvider;

/** What README.md says: its examples answer as it says, what it names is there, and what is there it names. */
public final class ReadmeTest {
    private static final Check CHECK = new Check();
    private static final Pattern ASKED = Pattern.compile("(x\\.\\w+\\(.*\\)); +// (-?\\d+|true|false)(:.*)?");
    private static final Pattern CODE = Pattern.compile("`(\\w+)(\\(\\))?`");
    private static final Pattern TEST = Pattern.compile("\\b\\w+Test\\b");

    private static final List<String> MEMBERS = new ArrayList<>();
    private static final List<String> CALLS = new ArrayList<>();
    private static final List<String> COMMANDS = new ArrayList<>();
    private static final List<String> WORDS = new ArrayList<>();
    private static final List<String> CLASS_ROWS = new ArrayList<>();
    private static int answers;

    public static void main(String[] args) throws IOException, ReflectiveOperationException {
        sortLines(Files.readAllLines(Path.of("README.md")));
        examples();
        commands();
        calls();
        tests();
        classes();
        CHECK.end();
    }

    /** A block of code that begins with static tells methods, any other one tells calls. */
    private static void sortLines(List<String> lines) {
        List<String> block = null;
        boolean built = false;
        for (int i = 0; i < lines.size(); i++) {
            String line = lines.get(i);
            if (line.startsWith("```")) {
                boolean begins = block == null && i + 1 < lines.size();
                block = !begins ? null : lines.get(i + 1).startsWith("static") ? MEMBERS : CALLS;
            } else if (block != null) {
                block.add(line);
            } else if (line.startsWith("    ")) {
                COMMANDS.add(line.strip());
            } else {
                WORDS.add(line);
                built |= line.equals("## How it is built");
                if (built && line.startsWith("| ") && !line.startsWith("| class ")) {
                    CLASS_ROWS.add(line.split("\\|")[1]);
                }
            }
        }
    }

    private static String program() {
        StringBuilder text = new StringBuilder("public final class Mine {\n");
        for (String line : MEMBERS) {
            text.append(line).append('\n');
        }
        text.append("public static java.util.List<String> wrong() {\n");
        text.append("java.util.List<String> wrong = new java.util.ArrayList<>();\n");
        for (String line : CALLS) {
            Matcher asked = ASKED.matcher(line);
            if (asked.matches()) {
                answers++;
                text.append("if (").append(asked.group(1)).append(" != ").append(asked.group(2))
                        .append(") { wrong.add(\"").append(asked.group(1)).append("\"); }\n");
            } else {
                text.append(line).append('\n');
            }
        }
        return text.append("return wrong;\n}\n}\n").toString();
    }

    private static void examples() throws IOException, ReflectiveOperationException {
        Path dir = Files.createTempDirectory("readme");
        Path source = Files.writeString(dir.resolve("Mine.java"), program());
        CHECK.due("answers are told", answers >= 20, true);
        String classes = System.getProperty("java.class.path");
        int compiled = ToolProvider.getSystemJavaCompiler().run(null, null, null, "-cp", classes, "-d", dir.toString(),
                source.toString());
        CHECK.due("the examples are compiled", compiled, 0);
        if (compiled == 0) {
            try (URLClassLoader loader = new URLClassLoader(new URL[] {dir.toUri().toURL()})) {
                Object wrong = loader.loadClass("Mine").getMethod("wrong").invoke(null);
                CHECK.due("wrong in README.md: " + wrong, ((List<?>) wrong).size(), 0);
            }
        }
        try (Stream<Path> files = Files.list(dir)) {
            files.map(Path::toFile).forEach(File::delete);
        }
        Files.delete(dir);
    }

    /** What is not compiled or run by the commands but by him who reads is his own, Mine. */
    private static void commands() throws IOException {
        CHECK.due("commands are told", COMMANDS.size() >= 6, true);
        for (String command : COMMANDS) {
            String[] words = command.split(" ");
            String last = words[words.length - 1];
            boolean there = last.startsWith("Mine") || !files(".", last).isEmpty()
                    || words[0].equals("java") && !files("src/test/java", last + ".java").isEmpty();
            CHECK.due("there is " + last, there, true);
        }
        CHECK.due(".ci/run can be run", Files.isExecutable(Path.of(".ci/run")), true);
    }

    /** The last part of a path may have a * in it. */
    private static Set<String> files(String root, String path) throws IOException {
        Path file = Path.of(root).resolve(path.replace('*', '@'));
        Set<String> found = new TreeSet<>();
        if (!Files.isDirectory(file.getParent())) {
            return found;
        }
        try (Stream<Path> files = Files.list(file.getParent())) {
            String shape = Pattern.quote(file.getFileName().toString()).replace("@", "\\E.*\\Q");
            files.map(each -> each.getFileName().toString()).filter(name -> name.matches(shape)).forEach(found::add);
        }
        return found;
    }

    /** The face is named in full. */
    private static void calls() {
        Set<String> named = new TreeSet<>();
        Matcher code = CODE.matcher(String.join("\n", WORDS));
        while (code.find()) {
            named.add(code.group(1));
        }
        for (Method method : ThirstHours.class.getDeclaredMethods()) {
            if (Modifier.isPublic(method.getModifiers())) {
                CHECK.due("README.md names " + method.getName(), named.contains(method.getName()), true);
            }
        }
        CHECK.due("README.md names NONE", named.contains("NONE"), true);
    }

    private static void tests() throws IOException {
        Set<String> named = new TreeSet<>();
        Matcher test = TEST.matcher(String.join("\n", WORDS));
        while (test.find()) {
            named.add(test.group() + ".java");
        }
        Set<String> there = files("src/test/java", "*Test.java");
        CHECK.due("README.md names " + named + ", there are " + there, named.equals(there), true);
    }

    private static void classes() {
        Set<String> named = new TreeSet<>();
        for (String row : CLASS_ROWS) {
            named.addAll(List.of(row.strip().split(", ")));
        }
        named.remove("---");
        Set<String> there = new TreeSet<>(Set.of("ThirstHours"));
        for (Class<?> inside : ThirstHours.class.getDeclaredClasses()) {
            there.add(inside.getSimpleName());
        }
        CHECK.due("README.md names " + named + ", there are " + there, named.equals(there), true);
    }
}
