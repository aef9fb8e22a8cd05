import java.lang.reflect.Method;
import java.lang.reflect.Modifier;
import java.net.URL;
import java.net.URLClassLoader;
import java.nio.file.Files;
import java.nio.file.Path;
import java.util.regex.Matcher;
import java.util.regex.Pattern;
import java.util.stream.Stream;
import javax.tools.JavaCompiler;
import javax.tools.ToolProvider;

/** The examples of README.md compile as they stand, answer what is told behind each call, and show every call. */
public final class ReadmeTest {
    private static final Pattern BLOCK = Pattern.compile("(?s)```java\n(.*?)```");
    private static final Pattern CALL = Pattern.compile("(?m)^(\\w+\\.\\w+\\(.*\\)); +// (-?\\d+|[A-Z]+)\\b.*$");
    private static final Pattern TOLD = Pattern.compile("; +//");

    private static int wrong = 0;

    /** Called by the class that is made of the examples. */
    public static void due(String call, int got, int want) {
        if (got != want) {
            wrong++;
            System.out.println("README.md: " + call + " answered " + got + ", told is " + want);
        }
    }

    private static void expect(boolean kept, String what) {
        if (!kept) {
            wrong++;
            System.out.println(what);
        }
    }

    public static void main(String[] args) throws Exception {
        StringBuilder examples = new StringBuilder();
        Matcher block = BLOCK.matcher(Files.readString(Path.of("README.md")));
        while (block.find()) {
            examples.append(block.group(1));
        }
        expect(examples.length() > 0, "README.md has no example");
        showsEveryCall(examples.toString());
        Path out = Files.createTempDirectory("readme");
        try {
            runExamples(examples.toString(), out);
        } finally {
            removeAll(out);
        }
        System.out.println(wrong == 0 ? "the examples of README.md answer as told" : wrong + " faults in README.md");
        if (wrong != 0) {
            System.exit(1);
        }
    }

    private static void showsEveryCall(String examples) {
        for (Method call : BetweenBoth.class.getDeclaredMethods()) {
            if (Modifier.isPublic(call.getModifiers())) {
                expect(examples.contains("." + call.getName() + "("), "README.md does not show " + call.getName() + "()");
            }
        }
    }

    private static void runExamples(String examples, Path out) throws Exception {
        Matcher call = CALL.matcher(examples);
        long told = TOLD.matcher(examples).results().count();
        expect(call.results().count() == told, "README.md tells an answer that is no number and no refusal");
        String body = call.reset().replaceAll(found -> Matcher.quoteReplacement("ReadmeTest.due(\""
                + found.group(1).replace("\"", "\\\"") + "\", " + found.group(1) + ", " + constant(found.group(2)) + ");"));
        Path source = out.resolve("Examples.java");
        Files.writeString(source, "public final class Examples {\n public static void run() {\n" + body + "\n }\n}\n");
        JavaCompiler compiler = ToolProvider.getSystemJavaCompiler();
        String path = System.getProperty("java.class.path");
        int failed = compiler.run(null, null, null, "-cp", path, "-d", out.toString(), source.toString());
        expect(failed == 0, "the examples of README.md do not compile");
        if (failed == 0) {
            try (URLClassLoader loader = new URLClassLoader(new URL[] {out.toUri().toURL()})) {
                loader.loadClass("Examples").getMethod("run").invoke(null);
            }
        }
    }

    private static String constant(String answer) {
        return Character.isLetter(answer.charAt(0)) ? "BetweenBoth." + answer : answer;
    }

    private static void removeAll(Path out) throws Exception {
        try (Stream<Path> files = Files.list(out)) {
            for (Path file : files.toList()) {
                Files.delete(file);
            }
        }
        Files.delete(out);
    }
}
