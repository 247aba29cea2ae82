import java.io.ByteArrayOutputStream;
import java.io.IOException;
import java.io.PrintStream;
import java.net.URL;
import java.net.URLClassLoader;
import java.nio.file.Files;
import java.nio.file.Path;
import java.util.List;
import java.util.regex.Matcher;
import java.util.regex.Pattern;
import java.util.stream.Collectors;
import java.util.stream.Stream;
import javax.tools.JavaCompiler;
import javax.tools.ToolProvider;

/** README.md's program is run as it stands there: each call prints the number that stands behind it. */
public final class ReadmeTest {
    private static final Pattern PROGRAM = Pattern.compile("(?ms)^```java\n(.*?)^```$");
    private static final Pattern CALL = Pattern.compile("println\\((x\\.\\w+\\(.*?\\))\\); +// (-?\\d+): ");
    private static final Pattern TEST_ROW = Pattern.compile("`(\\w+Test)`");

    public static void main(String[] args) throws IOException, ReflectiveOperationException {
        String readme = Files.readString(Path.of("README.md"));
        program(readme);
        namesEveryTest(readme);
        Due.end();
    }

    private static void program(String readme) throws IOException, ReflectiveOperationException {
        Matcher program = PROGRAM.matcher(readme);
        Due.holds("README.md has a program", program.find());
        String source = program.group(1);
        List<String> printed = run(source).lines().collect(Collectors.toList());
        Matcher call = CALL.matcher(source);
        int calls = 0;
        while (call.find()) {
            int got = calls < printed.size() ? Integer.parseInt(printed.get(calls)) : Integer.MIN_VALUE;
            Due.is("README.md: " + call.group(1), Integer.parseInt(call.group(2)), got);
            calls++;
        }
        Due.is("README.md: calls with a number behind them", printed.size(), calls);
        Due.is("README.md has one program: the commands take out every java block", 1, blocks(readme));
    }

    private static int blocks(String readme) {
        return (int) PROGRAM.matcher(readme).results().count();
    }

    /** What the program prints. */
    private static String run(String source) throws IOException, ReflectiveOperationException {
        Path folder = Files.createTempDirectory("readme");
        PrintStream console = System.out;
        ByteArrayOutputStream printed = new ByteArrayOutputStream();
        try {
            compile(folder, source);
            try (URLClassLoader loader = new URLClassLoader(new URL[] {folder.toUri().toURL()})) {
                System.setOut(new PrintStream(printed, true));
                loader.loadClass("Example").getMethod("main", String[].class).invoke(null, (Object) new String[0]);
            }
        } finally {
            System.setOut(console);
            remove(folder);
        }
        return printed.toString();
    }

    private static void compile(Path folder, String source) throws IOException {
        Path file = folder.resolve("Example.java");
        Files.writeString(file, source);
        JavaCompiler javac = ToolProvider.getSystemJavaCompiler();
        int code = javac.run(null, System.out, System.out, "-cp", System.getProperty("java.class.path"),
            "-d", folder.toString(), file.toString());
        Due.is("README.md: javac's exit code", 0, code);
    }

    private static void remove(Path folder) throws IOException {
        try (Stream<Path> files = Files.list(folder)) {
            for (Path file : files.collect(Collectors.toList())) {
                Files.delete(file);
            }
        }
        Files.delete(folder);
    }

    /** So that the table of tests there is neither short of one nor tells of one that is gone. */
    private static void namesEveryTest(String readme) throws IOException {
        List<String> named = TEST_ROW.matcher(readme.substring(readme.indexOf("| file |"))).results()
            .map(row -> row.group(1)).sorted().distinct().collect(Collectors.toList());
        try (Stream<Path> files = Files.list(Path.of("src/test/java"))) {
            List<String> there = files.map(file -> file.getFileName().toString())
                .filter(name -> name.endsWith("Test.java"))
                .map(name -> name.substring(0, name.length() - ".java".length()))
                .sorted().collect(Collectors.toList());
            Due.holds("README.md tells of the tests " + there + ", but of " + named, there.equals(named));
        }
    }
}
