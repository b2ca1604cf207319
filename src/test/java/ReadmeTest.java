import java.io.IOException;
import java.lang.reflect.Method;
import java.lang.reflect.Modifier;
import java.net.URL;
import java.net.URLClassLoader;
import java.nio.file.Files;
import java.nio.file.Path;
import java.util.ArrayList;
import java.util.List;
import java.util.regex.Matcher;
import java.util.regex.Pattern;
import java.util.stream.Stream;
import javax.tools.ToolProvider;

/** README.md: the answers that its example tells are those that the class gives, and it names each test and each call. */
public final class ReadmeTest {
    private static final Pattern TOLD = Pattern.compile("(x\\.\\w+\\(.*\\));\\s*// (-?\\d+): .+");
    private static final Due due = new Due();

    public static void main(String[] args) throws Exception {
        List<String> readme = Files.readAllLines(Path.of("README.md"));
        due.part("README: the example");
        example(readme);
        due.part("README: the names");
        names(String.join("\n", readme));
        due.end();
    }

    /** Compiles the example as it stands, only that each call hands on its answer. */
    private static void example(List<String> readme) throws Exception {
        List<String> calls = new ArrayList<>();
        List<Integer> told = new ArrayList<>();
        StringBuilder body = new StringBuilder();
        for (String line : exampleIn(readme)) {
            Matcher call = TOLD.matcher(line);
            if (call.matches()) {
                calls.add(call.group(1));
                told.add(Integer.parseInt(call.group(2)));
                body.append("answers.add(").append(call.group(1)).append(");\n");
            } else {
                due.so("an answer is told: " + line, !line.startsWith("x."));
                body.append(line).append('\n');
            }
        }
        due.so("the example tells answers", !calls.isEmpty());
        List<Integer> answers = answersOf(body.toString());
        due.is("calls of the example that answer", answers.size(), calls.size());
        for (int k = 0; k < Math.min(answers.size(), calls.size()); k++) {
            due.is(calls.get(k), answers.get(k), told.get(k));
        }
    }

    private static List<String> exampleIn(List<String> readme) {
        int begin = readme.indexOf("```java") + 1;
        List<String> behind = readme.subList(begin, readme.size());
        return behind.subList(0, Math.max(0, behind.indexOf("```")));
    }

    private static List<Integer> answersOf(String body) throws Exception {
        Path directory = Files.createTempDirectory("readme");
        Path source = directory.resolve("Example.java");
        Files.writeString(source, "public class Example {\npublic static void run(java.util.List<Integer> answers) {\n" + body + "}\n}\n");
        List<Integer> answers = new ArrayList<>();
        int failed = ToolProvider.getSystemJavaCompiler().run(null, null, null,
            "-cp", System.getProperty("java.class.path"), "-d", directory.toString(), source.toString());
        due.is("the example compiles", failed, 0);
        if (failed == 0) {
            try (URLClassLoader loader = new URLClassLoader(new URL[] {directory.toUri().toURL()})) {
                Method run = loader.loadClass("Example").getMethod("run", List.class);
                run.invoke(null, answers);
            }
        }
        remove(directory);
        return answers;
    }

    private static void remove(Path directory) throws IOException {
        try (Stream<Path> files = Files.list(directory)) {
            for (Path file : files.toList()) {
                Files.delete(file);
            }
        }
        Files.delete(directory);
    }

    private static void names(String readme) throws IOException {
        try (Stream<Path> sources = Files.list(Path.of("src/test/java"))) {
            for (Path source : sources.toList()) {
                String name = source.getFileName().toString().replace(".java", "");
                due.so(name + " is named", !name.endsWith("Test") || readme.contains("`" + name + "`"));
            }
        }
        due.so("how the tests are run is told", readme.contains("bash .ci/run"));
        for (Method m : CaughtHand.class.getDeclaredMethods()) {
            due.so(m.getName() + " is named", !Modifier.isPublic(m.getModifiers()) || readme.contains("`" + m.getName() + "`"));
        }
    }
}
