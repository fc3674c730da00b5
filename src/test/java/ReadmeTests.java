import java.io.File;
import java.io.IOException;
import java.net.URL;
import java.net.URLClassLoader;
import java.nio.file.Files;
import java.nio.file.Path;
import java.util.ArrayList;
import java.util.Arrays;
import java.util.Comparator;
import java.util.List;
import java.util.regex.Matcher;
import java.util.regex.Pattern;
import java.util.stream.Stream;
import javax.tools.JavaCompiler;
import javax.tools.ToolProvider;

/** The example of README.md: it compiles and runs as it stands, and each call in it answers what its line says. */
public final class ReadmeTests extends Checks {
    private static final Path README = Path.of("README.md");
    private static final Pattern BLOCK = Pattern.compile("(?s)```java\n(.*?)```");
    private static final Pattern ANSWER = Pattern.compile("\\s*(office\\.\\w+\\(.*\\));\\s*// (-?\\d+)");
    private static final Pattern THROWN = Pattern.compile("\\s*(office\\.\\w+\\(.*\\));\\s*// throws (\\w+)");
    private static final Pattern MAIN = Pattern.compile("(?s)void main\\(.*?\n    }\n");
    private static final int FEWEST_ANSWERS = 10;
    private static int answers;

    public static void main(String[] args) throws Exception {
        String example = example();
        Path place = Files.createTempDirectory("readme");
        try {
            run(place.resolve("asItStands"), example);
            due("answers of the example as it stands", answers, 0);
            run(place.resolve("weighed"), weighed(example));
            due("answers that the example came to", answers, answersIn(example));
        } finally {
            remove(place);
        }
        end("the example of README.md answers as it says");
    }

    private static String example() throws IOException {
        Matcher block = BLOCK.matcher(Files.readString(README));
        String example = block.find() ? block.group(1) : "";
        due("README.md has one example", !example.isEmpty() && !block.find(), true);
        due("the example has some answers", answersIn(example) >= FEWEST_ANSWERS, true);
        everyCallIsAnswered(example);
        return example;
    }

    private static int answersIn(String example) {
        return (int) example.lines().filter(line -> ANSWER.matcher(line).matches()).count();
    }

    private static void everyCallIsAnswered(String example) {
        Matcher main = MAIN.matcher(example);
        String[] lines = main.find() ? main.group().split("\n") : new String[0];
        due("the example has a main method", lines.length > 0, true);
        for (int i = 0; i < lines.length; i++) {
            String line = lines[i].strip();
            Matcher thrown = THROWN.matcher(line);
            due("an answer is told at: " + line, ANSWER.matcher(line).matches() || thrown.matches(),
                    line.startsWith("office."));
            if (thrown.matches()) {
                String next = i + 1 < lines.length ? lines[i + 1].strip() : "";
                due("what is caught behind: " + line, next, "} catch (" + thrown.group(2) + " refused) {");
            }
        }
    }

    /** The example with each answer weighed, and with a complaint behind each call that must throw. */
    private static String weighed(String example) {
        List<String> lines = new ArrayList<>();
        for (String line : example.split("\n")) {
            Matcher answer = ANSWER.matcher(line);
            Matcher thrown = THROWN.matcher(line);
            if (answer.matches()) {
                lines.add("ReadmeTests.weigh(\"" + answer.group(1) + "\", " + answer.group(1) + ", "
                        + answer.group(2) + ");");
            } else if (thrown.matches()) {
                lines.add(thrown.group(1) + "; ReadmeTests.missed(\"" + thrown.group(1) + "\");");
            } else {
                lines.add(line);
            }
        }
        return String.join("\n", lines) + "\n";
    }

    public static void weigh(String call, long got, long want) {
        answers++;
        due(call, got, want);
    }

    public static void missed(String call) {
        due(call, "an answer", "an exception");
    }

    private static void run(Path place, String program) throws Exception {
        Files.createDirectories(place);
        Path source = place.resolve("Example.java");
        Files.writeString(source, program);
        JavaCompiler compiler = ToolProvider.getSystemJavaCompiler();
        List<String> options = Arrays.asList("--release", "17", "-cp", System.getProperty("java.class.path"),
                "-d", place.toString(), source.toString());
        int code = compiler.run(null, null, null, options.toArray(new String[0]));
        due("the example compiles", code, 0);
        if (code != 0) {
            return;
        }
        try (URLClassLoader loader = new URLClassLoader(new URL[] {place.toUri().toURL()})) {
            loader.loadClass("Example").getMethod("main", String[].class).invoke(null, (Object) new String[0]);
        }
    }

    private static void remove(Path place) throws IOException {
        try (Stream<Path> files = Files.walk(place)) {
            files.sorted(Comparator.reverseOrder()).map(Path::toFile).forEach(File::delete);
        }
    }
}
