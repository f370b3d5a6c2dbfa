import java.io.IOException;
import java.lang.reflect.Method;
import java.lang.reflect.Modifier;
import java.net.URL;
import java.net.URLClassLoader;
import java.nio.file.Files;
import java.nio.file.Path;
import java.util.ArrayList;
import java.util.List;
import java.util.TreeSet;
import java.util.regex.Matcher;
import java.util.regex.Pattern;
import java.util.stream.Stream;
import javax.tools.ToolProvider;

/**
 * What README.md says is so: each call of its example answers what stands behind it, the example has all calls of
 * the class, and the tests that it names are those that there are. Runs in the project's directory.
 */
public final class DrillHeadsReadme {
    private static final Path README = Path.of("README.md");
    private static final Path TESTS = Path.of("src/test/java");
    private static final Pattern MADE = Pattern.compile("DrillHeads d = new DrillHeads\\(\\d+\\); +// .*");
    private static final Pattern CALL = Pattern.compile("(d\\.(\\w+)\\(.*\\)); +// (throws \\w+|-?\\w+): .*");

    public static void main(String[] args) throws Exception {
        List<String> example = example();
        answersAreSo(example);
        exampleHasAllCalls(example);
        namedTestsAreThose();
        Due.yes(".ci/run can be run", Files.isExecutable(Path.of(".ci/run")));
        Due.end();
    }

    /** The lines of README.md's block of Java, those without any text left out. */
    private static List<String> example() throws IOException {
        List<String> lines = new ArrayList<>();
        boolean inside = false;
        for (String line : Files.readAllLines(README)) {
            if (line.startsWith("```")) {
                inside = line.equals("```java");
            } else if (inside && !line.isBlank()) {
                lines.add(line);
            }
        }
        return lines;
    }

    private static void answersAreSo(List<String> example) throws Exception {
        List<Matcher> calls = new ArrayList<>();
        StringBuilder body = new StringBuilder();
        for (String line : example) {
            Matcher call = CALL.matcher(line);
            if (call.matches()) {
                calls.add(call);
                body.append("try { answers.add(String.valueOf(").append(call.group(1)).append(")); }\n")
                        .append("catch (RuntimeException e) {\n")
                        .append("answers.add(\"throws \" + e.getClass().getSimpleName()); }\n");
            } else {
                Due.yes("a line that makes an object or has an answer: " + line, MADE.matcher(line).matches());
                body.append(line).append('\n');
            }
        }
        List<String> answers = answersOf(body.toString());
        Due.same("calls of the example that answered", calls.size(), answers.size());
        for (int i = 0; i < calls.size() && i < answers.size(); i++) {
            Due.compare("README.md: " + calls.get(i).group(1), calls.get(i).group(3), answers.get(i));
        }
    }

    private static List<String> answersOf(String body) throws Exception {
        Path out = Files.createTempDirectory("readme");
        Path source = out.resolve("Example.java");
        List<String> answers = new ArrayList<>();
        try {
            Files.writeString(source, "public final class Example {\n"
                    + "public static void run(java.util.List<String> answers) {\n" + body + "}\n}\n");
            int failed = ToolProvider.getSystemJavaCompiler().run(null, null, null,
                    "-classpath", System.getProperty("java.class.path"), "-d", out.toString(), source.toString());
            Due.same("the example compiles", 0, failed);
            if (failed == 0) {
                try (URLClassLoader loader = new URLClassLoader(new URL[] {out.toUri().toURL()})) {
                    loader.loadClass("Example").getMethod("run", List.class).invoke(null, answers);
                }
            }
        } finally {
            Files.deleteIfExists(out.resolve("Example.class"));
            Files.deleteIfExists(source);
            Files.deleteIfExists(out);
        }
        return answers;
    }

    private static void exampleHasAllCalls(List<String> example) {
        TreeSet<String> called = new TreeSet<>();
        for (String line : example) {
            Matcher call = CALL.matcher(line);
            if (call.matches() && !call.group(3).startsWith("throws")) {
                called.add(call.group(2));
            }
        }
        TreeSet<String> face = new TreeSet<>();
        for (Method m : DrillHeads.class.getDeclaredMethods()) {
            if (Modifier.isPublic(m.getModifiers())) {
                face.add(m.getName());
            }
        }
        Due.compare("the calls of the example", face.toString(), called.toString());
    }

    private static void namedTestsAreThose() throws IOException {
        TreeSet<String> named = new TreeSet<>();
        Matcher name = Pattern.compile("`(DrillHeads\\w+)`").matcher(Files.readString(README));
        while (name.find()) {
            named.add(name.group(1));
        }
        TreeSet<String> there = new TreeSet<>();
        try (Stream<Path> files = Files.list(TESTS)) {
            files.forEach(f -> there.add(f.getFileName().toString().replaceFirst("\\.java$", "")));
        }
        Due.compare("the tests that README.md names", there.toString(), named.toString());
    }

    private DrillHeadsReadme() {
    }
}
