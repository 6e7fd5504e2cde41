import java.io.ByteArrayOutputStream;
import java.io.IOException;
import java.io.PrintStream;
import java.net.URL;
import java.net.URLClassLoader;
import java.nio.charset.StandardCharsets;
import java.nio.file.Files;
import java.nio.file.Path;
import java.util.ArrayList;
import java.util.List;
import java.util.Set;
import java.util.TreeSet;
import java.util.regex.Matcher;
import java.util.regex.Pattern;
import java.util.stream.Stream;
import javax.tools.ToolProvider;

/** README.md's example compiles and prints what its comments tell, and its table names the tests that there are. */
public final class ReadmeTest {
    private static final Check CHECK = new Check("ReadmeTest");
    private static final Path BUILD = Path.of("build", "readme");

    private ReadmeTest() {
    }

    public static void main(String[] args) throws IOException, ReflectiveOperationException {
        String text = Files.readString(Path.of("README.md"), StandardCharsets.UTF_8);
        String example = found(text, "(?s)```java\n(.*?)```").get(0);
        List<String> told = found(example, "println\\(.*\\); +// ([^:]+): ");
        CHECK.same("each line that prints has a comment", told.size(), found(example, "(println)").size());
        CHECK.same("lines that print", told.size() > 5, true);
        CHECK.same("what the example prints", printedBy(example), told);
        CHECK.same("the tests of the table", new TreeSet<>(found(text, "\n\\| (\\w+Test) \\|")), testsThatThereAre());
        for (String due : List.of("javac -d build/main src/main/java/Leadlight.java", "\n    .ci/run\n")) {
            CHECK.same("'" + due.strip() + "' stands in it", text.contains(due), true);
        }
        CHECK.end();
    }

    private static List<String> found(String text, String shape) {
        List<String> all = new ArrayList<>();
        Matcher each = Pattern.compile(shape).matcher(text);
        while (each.find()) {
            all.add(each.group(1));
        }
        return all;
    }

    private static Set<String> testsThatThereAre() throws IOException {
        Set<String> all = new TreeSet<>();
        try (Stream<Path> files = Files.list(Path.of("src", "test", "java"))) {
            files.map(each -> each.getFileName().toString()).filter(each -> each.endsWith("Test.java"))
                    .forEach(each -> all.add(each.replace(".java", "")));
        }
        return all;
    }

    private static List<String> printedBy(String example) throws IOException, ReflectiveOperationException {
        Path file = Files.createDirectories(BUILD).resolve("Example.java");
        Files.writeString(file, example, StandardCharsets.UTF_8);
        int code = ToolProvider.getSystemJavaCompiler().run(null, null, null,
                "-cp", System.getProperty("java.class.path"), "-d", BUILD.toString(), file.toString());
        CHECK.same("the example compiled", code, 0);
        return code == 0 ? printedByRunning() : List.of();
    }

    private static List<String> printedByRunning() throws IOException, ReflectiveOperationException {
        PrintStream before = System.out;
        ByteArrayOutputStream printed = new ByteArrayOutputStream();
        try (URLClassLoader loader = new URLClassLoader(new URL[] {BUILD.toUri().toURL()})) {
            System.setOut(new PrintStream(printed, true, StandardCharsets.UTF_8));
            loader.loadClass("Example").getMethod("main", String[].class).invoke(null, (Object) new String[0]);
        } finally {
            System.setOut(before);
        }
        return printed.toString(StandardCharsets.UTF_8).lines().toList();
    }
}
