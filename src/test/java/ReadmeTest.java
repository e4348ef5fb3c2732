import java.io.ByteArrayOutputStream;
import java.io.File;
import java.io.IOException;
import java.io.PrintStream;
import java.net.URL;
import java.net.URLClassLoader;
import java.nio.charset.StandardCharsets;
import java.nio.file.Files;
import java.nio.file.Path;
import java.util.ArrayList;
import java.util.List;
import java.util.regex.Matcher;
import java.util.regex.Pattern;
import java.util.stream.Stream;
import javax.tools.JavaCompiler;
import javax.tools.ToolProvider;

/** README.md against the class: its example prints what the comments behind the answers say. */
public final class ReadmeTest {
    private static final Path README = Path.of("README.md");
    private static final Path CLASS = Path.of("src/main/java/GossipCounts.java");
    private static final Path TESTS = Path.of("src/test/java");

    private static final Pattern EXAMPLE = Pattern.compile("(?s)```java\n(.*?)```");
    private static final Pattern ANSWER = Pattern.compile("System\\.out\\.println\\((.*)\\);\\s*// (\\S+): .+");
    private static final Pattern TEST = Pattern.compile("`(\\w+Test)`");

    private ReadmeTest() {
    }

    public static void main(String[] args) throws Exception {
        String page = Files.readString(README, StandardCharsets.UTF_8);
        exampleAnswersAsItSays(page);
        everyTestIsNamed(page);
        everyCallIsNamed(page);
        Check.end();
    }

    private static void exampleAnswersAsItSays(String page) throws Exception {
        Matcher example = EXAMPLE.matcher(page);
        Check.equal("README.md has an example", example.find(), true);
        String source = example.group(1);
        List<String> calls = new ArrayList<>();
        List<String> due = new ArrayList<>();
        for (String line : source.split("\n")) {
            Matcher answer = ANSWER.matcher(line.strip());
            Check.equal("an answer stands behind: " + line.strip(), answer.matches(), line.contains("println"));
            if (answer.matches()) {
                calls.add(answer.group(1));
                due.add(answer.group(2));
            }
        }
        List<String> printed = printedBy(source);
        Check.equal("lines that the example prints", printed.size(), due.size());
        for (int i = 0; i < due.size() && i < printed.size(); i++) {
            Check.equal("README.md: " + calls.get(i), printed.get(i), due.get(i));
        }
    }

    /** Compiles the example together with the class, as the page tells to, and runs it. */
    private static List<String> printedBy(String source) throws Exception {
        Path directory = Files.createTempDirectory("readme");
        try {
            Path example = directory.resolve("Example.java");
            Files.writeString(example, source, StandardCharsets.UTF_8);
            JavaCompiler javac = ToolProvider.getSystemJavaCompiler();
            int status = javac.run(null, null, null, "-d", directory.toString(), CLASS.toString(), example.toString());
            Check.equal("status of javac for the example", status, 0);
            return status == 0 ? printedByMain(directory) : List.of();
        } finally {
            delete(directory);
        }
    }

    private static List<String> printedByMain(Path directory) throws Exception {
        PrintStream before = System.out;
        ByteArrayOutputStream printed = new ByteArrayOutputStream();
        // No parent but the platform's, so that the class is the one that was just compiled.
        URL[] urls = {directory.toUri().toURL()};
        try (URLClassLoader loader = new URLClassLoader(urls, ClassLoader.getPlatformClassLoader())) {
            System.setOut(new PrintStream(printed, true, StandardCharsets.UTF_8));
            Object arguments = new String[0];
            loader.loadClass("Example").getMethod("main", String[].class).invoke(null, arguments);
        } finally {
            System.setOut(before);
        }
        return printed.toString(StandardCharsets.UTF_8).lines().toList();
    }

    private static void everyTestIsNamed(String page) {
        List<String> named = new ArrayList<>();
        Matcher test = TEST.matcher(page);
        while (test.find()) {
            named.add(test.group(1));
            Check.equal(test.group(1) + " is there", Files.exists(TESTS.resolve(test.group(1) + ".java")), true);
        }
        for (String file : new File(TESTS.toString()).list()) {
            String name = file.replace(".java", "");
            Check.equal(name + " is named", !name.endsWith("Test") || named.contains(name), true);
        }
    }

    private static void everyCallIsNamed(String page) {
        for (java.lang.reflect.Method method : GossipCounts.class.getDeclaredMethods()) {
            if (java.lang.reflect.Modifier.isPublic(method.getModifiers())) {
                Check.equal(method.getName() + "() is named", page.contains("`" + method.getName() + "`"), true);
            }
        }
    }

    private static void delete(Path directory) throws IOException {
        try (Stream<Path> files = Files.list(directory)) {
            for (Path file : files.toList()) {
                Files.delete(file);
            }
        }
        Files.delete(directory);
    }
}
