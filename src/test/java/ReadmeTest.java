import java.io.ByteArrayOutputStream;
import java.io.IOException;
import java.io.PrintStream;
import java.lang.reflect.Method;
import java.lang.reflect.Modifier;
import java.net.URL;
import java.net.URLClassLoader;
import java.nio.file.Files;
import java.nio.file.Path;
import java.util.ArrayList;
import java.util.List;
import java.util.regex.Matcher;
import java.util.regex.Pattern;
import javax.tools.ToolProvider;

/** README.md's example compiles and prints what its comments say, and README.md names every call. */
public final class ReadmeTest {
    private static final Pattern EXAMPLE = Pattern.compile("```java\n(.*?)```", Pattern.DOTALL);
    // The comment behind a line that prints begins with what it prints, with all its rounds.
    private static final Pattern PRINTED = Pattern.compile("println\\(.*// (-?\\d+(?: -?\\d+)*)");

    public static void main(String[] args) throws Exception {
        Checks checks = new Checks();
        String readme = Files.readString(Path.of("README.md"));
        Matcher found = EXAMPLE.matcher(readme);
        String example = found.find() ? found.group(1) : "";
        checks.due("the example prints", printedBy(example), told(example));
        checks.due("the example prints much", told(example).size() > 10, true);
        for (Method method : TwinHashTables.class.getDeclaredMethods()) {
            if (Modifier.isPublic(method.getModifiers())) {
                checks.due("README.md names " + method.getName(), readme.contains("`" + method.getName() + "`"), true);
            }
        }
        checks.end("ReadmeTest");
    }

    private static List<String> told(String example) {
        List<String> numbers = new ArrayList<>();
        Matcher line = PRINTED.matcher(example);
        while (line.find()) {
            numbers.addAll(List.of(line.group(1).split(" ")));
        }
        return numbers;
    }

    private static List<String> printedBy(String example) throws Exception {
        Path directory = Files.createTempDirectory("readme");
        Path source = directory.resolve("Example.java");
        PrintStream screen = System.out;
        ByteArrayOutputStream printed = new ByteArrayOutputStream();
        try {
            Files.writeString(source, example);
            int refused = ToolProvider.getSystemJavaCompiler().run(null, null, null,
                "-cp", System.getProperty("java.class.path"), "-d", directory.toString(), source.toString());
            if (refused != 0) {
                return List.of("it does not compile");
            }
            System.setOut(new PrintStream(printed, true));
            try (URLClassLoader loader = new URLClassLoader(new URL[] {directory.toUri().toURL()})) {
                loader.loadClass("Example").getMethod("main", String[].class).invoke(null, (Object) new String[0]);
            }
        } finally {
            System.setOut(screen);
            deleteAll(directory);
        }
        return List.of(printed.toString().strip().split("\\s+"));
    }

    private static void deleteAll(Path directory) throws IOException {
        try (var files = Files.newDirectoryStream(directory)) {
            for (Path file : files) {
                Files.delete(file);
            }
        }
        Files.delete(directory);
    }
}
