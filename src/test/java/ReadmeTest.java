import java.io.ByteArrayOutputStream;
import java.io.IOException;
import java.io.PrintStream;
import java.net.URL;
import java.net.URLClassLoader;
import java.nio.charset.StandardCharsets;
import java.nio.file.Files;
import java.nio.file.Path;
import java.util.ArrayList;
import java.util.List;
import java.util.regex.Matcher;
import java.util.regex.Pattern;
import java.util.stream.Stream;
import javax.tools.JavaCompiler;
import javax.tools.ToolProvider;

/** README.md: each example is compiled as it stands there and has to print what stands below it; each test is named. */
public final class ReadmeTest {
    private static final Probe PROBE = new Probe("ReadmeTest");
    private static final Pattern EXAMPLE = Pattern.compile("```java\n(.*?)```\n\nprints\n\n```text\n(.*?)```", Pattern.DOTALL);

    public static void main(String[] args) throws Exception {
        String readme = Files.readString(Path.of("README.md"));
        Path directory = Files.createTempDirectory("readme");
        try {
            examples(readme, directory);
        } finally {
            delete(directory);
        }
        everyTestIsNamed(readme);
        PROBE.finish();
    }

    private static void examples(String readme, Path directory) throws Exception {
        Matcher example = EXAMPLE.matcher(readme);
        int found = 0;
        while (example.find()) {
            PROBE.due("what example " + found + " prints", printed("Example" + found, example.group(1), directory),
                example.group(2));
            found++;
        }
        PROBE.due("each piece of Java is an example", found, readme.split("```java", -1).length - 1);
        PROBE.due("there is an example", found > 0, true);
    }

    private static String printed(String name, String body, Path directory) throws Exception {
        Path file = directory.resolve(name + ".java");
        Files.writeString(file, "public class " + name + " {\n    public static void main(String[] args) {\n" + body + "    }\n}\n");
        JavaCompiler compiler = ToolProvider.getSystemJavaCompiler();
        String classes = System.getProperty("java.class.path");
        if (compiler.run(null, null, null, "-classpath", classes, "-d", directory.toString(), file.toString()) != 0) {
            return "it doesn't compile";
        }
        PrintStream before = System.out;
        ByteArrayOutputStream text = new ByteArrayOutputStream();
        try (URLClassLoader loader = new URLClassLoader(new URL[] {directory.toUri().toURL()});
            PrintStream out = new PrintStream(text, true, StandardCharsets.UTF_8)) {
            System.setOut(out);
            loader.loadClass(name).getMethod("main", String[].class).invoke(null, (Object) new String[0]);
        } finally {
            System.setOut(before);
        }
        return text.toString(StandardCharsets.UTF_8).replace(System.lineSeparator(), "\n");
    }

    private static void delete(Path directory) throws IOException {
        List<Path> files = new ArrayList<>();
        try (Stream<Path> within = Files.list(directory)) {
            within.forEach(files::add);
        }
        for (Path file : files) {
            Files.delete(file);
        }
        Files.delete(directory);
    }

    private static void everyTestIsNamed(String readme) throws IOException {
        List<String> names = new ArrayList<>();
        try (Stream<Path> tests = Files.list(Path.of("src/test/java"))) {
            tests.forEach(test -> names.add(test.getFileName().toString().replace(".java", "")));
        }
        for (String name : names) {
            PROBE.due("README.md names " + name, readme.contains("`" + name + "`"), true);
        }
    }
}
