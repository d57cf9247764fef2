import java.io.ByteArrayOutputStream;
import java.io.IOException;
import java.io.PrintStream;
import java.lang.reflect.Method;
import java.lang.reflect.Modifier;
import java.net.URL;
import java.net.URLClassLoader;
import java.nio.file.Files;
import java.nio.file.Path;
import java.util.ArrayList;
import java.util.Arrays;
import java.util.List;
import java.util.stream.Stream;
import javax.tools.JavaCompiler;
import javax.tools.ToolProvider;

/** What README.md says of the class and of its tests; run it from the project's directory. */
public final class ReadmeTest {
    private static final String ANSWER = "// = ";

    private ReadmeTest() {
    }

    public static void main(String[] args) throws IOException, ReflectiveOperationException {
        String readme = Files.readString(Path.of("README.md"));
        exampleAnswers(between(readme, "```java\n", "```"));
        callsAreNamed(readme);
        testsAreNamed(readme);
        Check.end("ReadmeTest");
    }

    private static String between(String text, String begin, String end) {
        int from = text.indexOf(begin);
        int to = from < 0 ? -1 : text.indexOf(end, from + begin.length());
        if (to < 0) {
            Check.report("README.md holds no example");
            return "";
        }
        return text.substring(from + begin.length(), to);
    }

    /** Each line that prints says behind it what it prints. */
    private static void exampleAnswers(String example) throws IOException, ReflectiveOperationException {
        List<String> due = new ArrayList<>();
        for (String line : example.split("\n")) {
            if (line.contains("println")) {
                int at = line.indexOf(ANSWER);
                due.add(at < 0 ? "no answer in README.md" : line.substring(at + ANSWER.length()).split(":")[0]);
            }
        }
        Check.same("README.md's example prints something", due.isEmpty(), false);
        Path place = Files.createTempDirectory("readme");
        Path source = place.resolve("Evening.java");
        try {
            Files.writeString(source, example);
            if (compiled(source, place)) {
                Check.same("README.md's example", printed(place), String.join("\n", due));
            }
        } finally {
            Files.deleteIfExists(source);
            Files.deleteIfExists(place.resolve("Evening.class"));
            Files.deleteIfExists(place);
        }
    }

    private static boolean compiled(Path source, Path place) {
        JavaCompiler compiler = ToolProvider.getSystemJavaCompiler();
        int code = compiler.run(null, null, null, "--release", "17", "-cp", System.getProperty("java.class.path"),
                "-d", place.toString(), source.toString());
        Check.same("README.md's example compiles with the code", code, 0);
        return code == 0;
    }

    private static String printed(Path place) throws IOException, ReflectiveOperationException {
        PrintStream before = System.out;
        ByteArrayOutputStream text = new ByteArrayOutputStream();
        try (URLClassLoader loader = new URLClassLoader(new URL[] {place.toUri().toURL()})) {
            System.setOut(new PrintStream(text, true));
            loader.loadClass("Evening").getMethod("main", String[].class).invoke(null, (Object) new String[0]);
        } finally {
            System.setOut(before);
        }
        return String.join("\n", text.toString().split("\\R"));
    }

    private static void callsAreNamed(String readme) {
        for (Method method : MortarShow.class.getDeclaredMethods()) {
            if (Modifier.isPublic(method.getModifiers())) {
                long rows = readme.lines().filter(row -> isRowOf(row, method)).count();
                Check.same("README.md's rows for " + method.getName(), rows, 1);
            }
        }
    }

    private static boolean isRowOf(String row, Method method) {
        String begin = "| `" + method.getName() + "(";
        if (!row.startsWith(begin)) {
            return false;
        }
        String names = row.substring(begin.length(), row.indexOf(')'));
        long count = Arrays.stream(names.split(",")).filter(name -> !name.isBlank()).count();
        return count == method.getParameterCount();
    }

    private static void testsAreNamed(String readme) throws IOException {
        try (Stream<Path> files = Files.list(Path.of("src/test/java"))) {
            for (Path file : (Iterable<Path>) files::iterator) {
                String name = file.getFileName().toString().replace(".java", "");
                boolean named = readme.contains("`" + name + "`");
                Check.same("README.md names " + name, named || !name.endsWith("Test"), true);
            }
        }
    }
}
