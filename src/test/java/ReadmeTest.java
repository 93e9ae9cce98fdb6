import java.io.IOException;
import java.lang.reflect.Method;
import java.lang.reflect.Modifier;
import java.net.URL;
import java.net.URLClassLoader;
import java.nio.file.Files;
import java.nio.file.Path;
import java.util.Comparator;
import java.util.List;
import java.util.Set;
import java.util.TreeSet;
import java.util.regex.Matcher;
import java.util.regex.Pattern;
import java.util.stream.Collectors;
import java.util.stream.Stream;

/** README.md against the class and its tests as they stand. Run from the project's folder. */
public final class ReadmeTest {
    private static final Check CHECK = new Check("ReadmeTest");
    private static final Path TESTS = Path.of("src/test/java");
    private static final Pattern EXAMPLE = Pattern.compile("(?s)```java\n(.*?)```");
    private static final Pattern ASKED = Pattern.compile("^(desk\\..*\\));\\s+// (-?\\d+)(?:: .*)?$");
    private static final Pattern CALL = Pattern.compile("(?m)^\\| `(\\w+)\\(([^)]*)\\)` \\|");
    private static final Pattern TEST = Pattern.compile("(?m)^\\| (\\w+Test) \\|");

    public static void main(String[] args) throws Exception {
        String readme = Files.readString(Path.of("README.md"));
        example(readme);
        calls(readme);
        tests(readme);
        classes(readme);
        CHECK.end();
    }

    /** What the example looks at is told by its own lines: a call, and its answer ahead of a colon. */
    public static void due(String call, int got, int want) {
        CHECK.due(call, got, want);
    }

    private static void example(String readme) throws Exception {
        Matcher block = EXAMPLE.matcher(readme);
        CHECK.holds("there is an example", block.find());
        Path folder = Files.createTempDirectory("readme");
        Path file = folder.resolve("ReadmeExample.java");
        Files.writeString(file, "public class ReadmeExample {\n public static void main(String[] args) {\n"
            + block.group(1).lines().map(ReadmeTest::withCheck).collect(Collectors.joining("\n")) + "\n }\n}\n");
        int exit = new ProcessBuilder("javac", "-cp", System.getProperty("java.class.path"), "-d", folder.toString(),
            file.toString()).inheritIO().start().waitFor();
        CHECK.due("javac of the example", exit, 0);
        if (exit == 0) {
            try (URLClassLoader loader = new URLClassLoader(new URL[] {folder.toUri().toURL()})) {
                Method main = loader.loadClass("ReadmeExample").getMethod("main", String[].class);
                main.invoke(null, (Object) new String[0]);
            }
        }
        remove(folder);
    }

    private static String withCheck(String line) {
        Matcher asked = ASKED.matcher(line);
        return asked.find() ? "ReadmeTest.due(\"" + asked.group(1) + "\", " + asked.group(1) + ", " + asked.group(2)
            + ");" : line;
    }

    private static void remove(Path folder) throws IOException {
        try (Stream<Path> paths = Files.walk(folder)) {
            List<Path> inside = paths.sorted(Comparator.reverseOrder()).collect(Collectors.toList());
            for (Path path : inside) {
                Files.delete(path);
            }
        }
    }

    private static void calls(String readme) {
        Set<String> face = new TreeSet<>();
        for (Method m : PlainAsk.class.getDeclaredMethods()) {
            if (Modifier.isPublic(m.getModifiers())) {
                face.add(m.getName() + " " + m.getParameterCount());
            }
        }
        Set<String> told = new TreeSet<>();
        Matcher call = CALL.matcher(readme);
        while (call.find()) {
            int parameters = call.group(2).isEmpty() ? 0 : call.group(2).split(",").length;
            told.add(call.group(1) + " " + parameters);
        }
        same("calls", told, face);
    }

    private static void tests(String readme) throws IOException {
        Set<String> told = new TreeSet<>();
        Matcher test = TEST.matcher(readme);
        while (test.find()) {
            told.add(test.group(1));
        }
        try (Stream<Path> files = Files.list(TESTS)) {
            same("tests", told, files.map(file -> file.getFileName().toString()).filter(n -> n.endsWith("Test.java"))
                .map(n -> n.replace(".java", "")).collect(Collectors.toCollection(TreeSet::new)));
        }
    }

    private static void classes(String readme) {
        for (Class<?> inside : PlainAsk.class.getDeclaredClasses()) {
            String name = inside.getSimpleName();
            CHECK.holds("README.md tells of " + name, readme.contains("`" + name + "`"));
        }
    }

    private static void same(String what, Set<String> told, Set<String> there) {
        CHECK.holds("README.md tells the " + what + " " + there + ", not " + told, told.equals(there));
    }
}
