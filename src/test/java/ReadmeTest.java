import java.io.IOException;
import java.lang.reflect.Method;
import java.lang.reflect.Modifier;
import java.net.URL;
import java.net.URLClassLoader;
import java.nio.file.Files;
import java.nio.file.Path;
import java.util.function.BiConsumer;
import java.util.regex.Matcher;
import java.util.regex.Pattern;
import java.util.stream.Stream;
import javax.tools.ToolProvider;

/** The Java of README.md compiles, and its calls answer as the page says. Run from the project's folder. */
public final class ReadmeTest {
    private static final Pattern BLOCK = Pattern.compile("(?s)```java\n(.*?)```");
    private static final Pattern ANSWERED = Pattern.compile("(queue\\.\\w+\\(.*\\)); *// (-?\\d+): .*");

    private static final Due d = new Due("ReadmeTest");
    private static int answered = 0;

    public static void main(String[] args) throws IOException, ReflectiveOperationException {
        String page = Files.readString(Path.of("README.md"));
        Path folder = Files.createTempDirectory("readme");
        try {
            runExample(exampleOf(page), folder);
        } finally {
            deleteAll(folder);
        }
        namesEachCall(page);
        namesEachTest(page);
        d.end();
    }

    /** One class of all that stands on the page; each answer that is told there is looked at. */
    private static String exampleOf(String page) {
        StringBuilder source = new StringBuilder("public final class Example {\n"
            + "public static void run(java.util.function.BiConsumer<String, int[]> due) {\n");
        Matcher block = BLOCK.matcher(page);
        while (block.find()) {
            for (String line : block.group(1).split("\n")) {
                source.append(looked(line)).append('\n');
            }
        }
        return source.append("}\n}\n").toString();
    }

    private static String looked(String line) {
        Matcher call = ANSWERED.matcher(line);
        if (!call.matches()) {
            d.holds("an answer stands in this line's form, or none: " + line, !line.contains("//"));
            return line;
        }
        answered++;
        return "due.accept(\"" + call.group(1) + "\", new int[] {" + call.group(1) + ", " + call.group(2) + "});";
    }

    private static void runExample(String source, Path folder) throws IOException, ReflectiveOperationException {
        Path file = folder.resolve("Example.java");
        Files.writeString(file, source);
        int code = ToolProvider.getSystemJavaCompiler().run(null, null, null, "-cp", System.getProperty("java.class.path"),
            "-d", folder.toString(), file.toString());
        d.due("the compiler's code for the Java on the page", code, 0);
        if (code != 0) {
            return;
        }
        int ahead = d.looked();
        try (URLClassLoader loader = new URLClassLoader(new URL[] {folder.toUri().toURL()})) {
            BiConsumer<String, int[]> due = (call, got) -> d.due(call, got[0], got[1]);
            loader.loadClass("Example").getMethod("run", BiConsumer.class).invoke(null, due);
        }
        d.due("answers looked at", d.looked() - ahead, answered);
    }

    private static void namesEachCall(String page) {
        for (Method method : PoplarQueue.class.getDeclaredMethods()) {
            if (Modifier.isPublic(method.getModifiers())) {
                d.holds("the page has a call of " + method.getName(), page.contains("queue." + method.getName() + "("));
            }
        }
    }

    private static void namesEachTest(String page) throws IOException {
        try (Stream<Path> files = Files.list(Path.of("src/test/java"))) {
            files.map(file -> file.getFileName().toString().replace(".java", "")).filter(name -> name.endsWith("Test"))
                .forEach(name -> d.holds("the page names " + name, page.contains(name)));
        }
    }

    private static void deleteAll(Path folder) throws IOException {
        try (Stream<Path> files = Files.list(folder)) {
            for (Path file : files.toList()) {
                Files.delete(file);
            }
        }
        Files.delete(folder);
    }
}
