import java.io.IOException;
import java.lang.reflect.Method;
import java.net.URL;
import java.net.URLClassLoader;
import java.nio.file.Files;
import java.nio.file.Path;
import java.util.ArrayList;
import java.util.List;
import java.util.TreeSet;
import java.util.regex.Matcher;
import java.util.regex.Pattern;
import java.util.stream.Collectors;
import java.util.stream.Stream;
import javax.tools.JavaCompiler;
import javax.tools.ToolProvider;

/** What README.md says holds: its example answers as told there, and its tests are those that there are. */
public final class ReadmeTest {
    private static final Check CHECK = new Check();
    private static final Pattern BLOCK = Pattern.compile("(?s)```java\n(.*?)```");
    private static final Pattern ANSWERED = Pattern.compile("(?m)^(x\\.\\w+\\(.*\\)); +// (-?\\d+|true|false)\\b.*$");
    private static final Pattern CALL = Pattern.compile("(?m)^x\\.");

    public static void main(String[] args) throws IOException, ReflectiveOperationException {
        String page = Files.readString(Path.of("README.md"));
        example(page);
        tests(page);
        CHECK.finish();
    }

    private static void example(String page) throws IOException, ReflectiveOperationException {
        CHECK.about("the example of README.md");
        StringBuilder helpers = new StringBuilder();
        StringBuilder calls = new StringBuilder();
        Matcher block = BLOCK.matcher(page);
        while (block.find()) {
            (block.group(1).startsWith("static") ? helpers : calls).append(block.group(1));
        }
        Path folder = Files.createTempDirectory("readme");
        try {
            List<String[]> answers = answersOf(folder, sourceOf(helpers, calls));
            for (String[] answer : answers) {
                CHECK.due(answer[0], answer[1], answer[2]);
            }
            CHECK.due("calls with an answer told", answers.size(), CALL.matcher(calls).results().count());
            CHECK.due("there are some", answers.size() > 10, true);
        } finally {
            remove(folder);
        }
    }

    /** Each call behind which an answer is told becomes one that keeps what was answered and what is told. */
    private static String sourceOf(CharSequence helpers, CharSequence calls) {
        String kept = ANSWERED.matcher(calls).replaceAll(m -> Matcher.quoteReplacement("seen.add(new String[] {\""
            + m.group(1) + "\", String.valueOf(" + m.group(1) + "), \"" + m.group(2) + "\"});"));
        return "public final class Example {\n" + helpers
            + "public static void go(java.util.List<String[]> seen) {\n" + kept + "}\n}\n";
    }

    private static List<String[]> answersOf(Path folder, String source)
        throws IOException, ReflectiveOperationException {
        Path file = Files.writeString(folder.resolve("Example.java"), source);
        JavaCompiler compiler = ToolProvider.getSystemJavaCompiler();
        int failed = compiler.run(null, null, null, "-cp", System.getProperty("java.class.path"), "-d",
            folder.toString(), file.toString());
        CHECK.due("javac of the example", failed, 0);
        List<String[]> seen = new ArrayList<>();
        if (failed == 0) {
            try (URLClassLoader loader = new URLClassLoader(new URL[] {folder.toUri().toURL()})) {
                Method go = loader.loadClass("Example").getMethod("go", List.class);
                go.invoke(null, seen);
            }
        }
        return seen;
    }

    private static void remove(Path folder) throws IOException {
        try (Stream<Path> files = Files.list(folder)) {
            for (Path file : files.collect(Collectors.toList())) {
                Files.delete(file);
            }
        }
        Files.delete(folder);
    }

    private static void tests(String page) throws IOException {
        CHECK.about("the tests that README.md names");
        TreeSet<String> named = new TreeSet<>();
        Matcher name = Pattern.compile("`(\\w+Test)`").matcher(page);
        while (name.find()) {
            named.add(name.group(1));
        }
        TreeSet<String> there = new TreeSet<>();
        try (Stream<Path> files = Files.list(Path.of("src/test/java"))) {
            files.map(f -> f.getFileName().toString()).filter(f -> f.endsWith("Test.java"))
                .forEach(f -> there.add(f.replace(".java", "")));
        }
        CHECK.due("names", named.toString(), there.toString());
    }
}
