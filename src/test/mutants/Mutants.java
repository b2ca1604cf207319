import java.io.IOException;
import java.io.OutputStream;
import java.io.PrintStream;
import java.lang.reflect.Field;
import java.lang.reflect.Method;
import java.net.URL;
import java.net.URLClassLoader;
import java.nio.file.Files;
import java.nio.file.Path;
import java.util.ArrayList;
import java.util.LinkedHashSet;
import java.util.List;
import java.util.Map;
import java.util.Set;
import java.util.concurrent.ExecutorService;
import java.util.concurrent.Executors;
import java.util.concurrent.Future;
import javax.tools.ToolProvider;

/** Breaks the class once for each block of mutants.txt and tells which of the tests of sentences do not fail by it. */
public final class Mutants {
    private static final String[] TESTS = {"EdgePeopleTest", "EdgeTextTest", "EdgeDaysTest", "EdgeForetoldTest", "EdgeHandsTest", "EdgeSheetsTest"};
    private static final long LONGEST_MILLIS = 20000;
    private static final PrintStream OUT = System.out;

    private record Mutant(String label, List<String> from, List<String> to) {
    }

    public static void main(String[] args) throws Exception {
        String source = withoutBlanks(Files.readAllLines(Path.of("src/main/java/CaughtHand.java")));
        List<Mutant> mutants = read(Files.readAllLines(Path.of("src/test/mutants/mutants.txt")));
        Path tests = Files.createTempDirectory("tests");
        compile(tests, testSources());
        System.setOut(new PrintStream(OutputStream.nullOutputStream()));
        Set<String> labels = new LinkedHashSet<>();
        Set<String> failed = new LinkedHashSet<>();
        for (String test : TESTS) {
            wrongParts(test, labels, new LinkedHashSet<>(), tests);
        }
        int survived = 0;
        ExecutorService workers = Executors.newFixedThreadPool(Runtime.getRuntime().availableProcessors());
        List<Future<Set<String>>> answers = new ArrayList<>();
        for (Mutant mutant : mutants) {
            answers.add(workers.submit(() -> broken(mutant, source, tests)));
        }
        for (int k = 0; k < mutants.size(); k++) {
            Set<String> wrong = answers.get(k).get();
            failed.addAll(wrong);
            String label = mutants.get(k).label();
            if (!labels.contains(label)) {
                OUT.println("no such test: " + label);
                survived++;
            } else if (!wrong.contains(label)) {
                OUT.println("not seen by its test: block " + (k + 1) + ", " + label + "; seen by " + wrong);
                survived++;
            }
        }
        workers.shutdown();
        labels.removeAll(failed);
        OUT.println(mutants.size() + " blocks, " + survived + " not seen; tests that fail by none of them: " + labels);
        System.exit(survived > 0 ? 1 : 0);
    }

    private static String withoutBlanks(List<String> lines) {
        StringBuilder s = new StringBuilder();
        for (String line : lines) {
            s.append(line.isBlank() ? "" : line.strip() + "\n");
        }
        return s.toString();
    }

    private static List<Mutant> read(List<String> lines) {
        List<Mutant> mutants = new ArrayList<>();
        char before = ' ';
        for (String line : lines) {
            char sign = line.isEmpty() ? ' ' : line.charAt(0);
            String text = line.length() > 2 ? line.substring(2).strip() : "";
            if (sign == '=') {
                mutants.add(new Mutant(text, new ArrayList<>(), new ArrayList<>()));
            } else if (sign == '-' || sign == '+') {
                Mutant mutant = mutants.get(mutants.size() - 1);
                addLine(sign == '-' ? mutant.from() : mutant.to(), text, sign != before);
            }
            before = sign;
        }
        return mutants;
    }

    private static void addLine(List<String> parts, String text, boolean isNew) {
        if (isNew) {
            parts.add(text);
        } else {
            int last = parts.size() - 1;
            parts.set(last, parts.get(last) + "\n" + text);
        }
    }

    private static List<String> testSources() throws IOException {
        List<String> sources = new ArrayList<>(List.of("src/main/java/CaughtHand.java"));
        for (String test : TESTS) {
            sources.add("src/test/java/" + test + ".java");
        }
        return sources;
    }

    private static void compile(Path out, List<String> sources) {
        List<String> args = new ArrayList<>(List.of("-nowarn", "-proc:none", "-sourcepath", "src/test/java", "-d", out.toString()));
        args.addAll(sources);
        if (ToolProvider.getSystemJavaCompiler().run(null, OutputStream.nullOutputStream(), OutputStream.nullOutputStream(), args.toArray(new String[0])) != 0) {
            throw new IllegalStateException("does not compile: " + sources);
        }
    }

    /** The tests of sentences that fail by it; one line that says why, if the mutant can't be made. */
    private static Set<String> broken(Mutant mutant, String source, Path tests) throws Exception {
        String changed = source;
        for (int k = 0; k < mutant.from().size(); k++) {
            String from = mutant.from().get(k);
            int at = changed.indexOf(from);
            if (at < 0 || changed.indexOf(from, at + 1) >= 0) {
                return Set.of(at < 0 ? "(nothing: no such lines)" : "(nothing: lines that are there twice)");
            }
            changed = changed.substring(0, at) + mutant.to().get(k) + changed.substring(at + from.length());
        }
        Path dir = Files.createTempDirectory("mutant");
        Path file = Files.writeString(dir.resolve("CaughtHand.java"), changed);
        try {
            compile(dir, List.of(file.toString()));
        } catch (IllegalStateException e) {
            return Set.of("(nothing: does not compile)");
        }
        Set<String> wrong = new LinkedHashSet<>();
        for (String test : TESTS) {
            wrongParts(test, new LinkedHashSet<>(), wrong, dir, tests);
        }
        return wrong;
    }

    /** Runs a test with the first CaughtHand on the paths. A throw ends it, in the part that it is in then. */
    private static void wrongParts(String test, Set<String> all, Set<String> wrong, Path... paths) throws Exception {
        URL[] urls = new URL[paths.length];
        for (int k = 0; k < paths.length; k++) {
            urls[k] = paths[k].toUri().toURL();
        }
        try (URLClassLoader loader = new URLClassLoader(urls, ClassLoader.getPlatformClassLoader())) {
            Class<?> type = loader.loadClass(test);
            boolean[] ended = new boolean[1];
            Thread runner = new Thread(() -> ended[0] = runs(type));
            runner.setDaemon(true);
            runner.start();
            runner.join(LONGEST_MILLIS);
            Field due = type.getDeclaredField("due");
            due.setAccessible(true);
            Method byPart = due.getType().getDeclaredMethod("wrongByPart");
            byPart.setAccessible(true);
            String last = "";
            for (Map.Entry<?, ?> part : ((Map<?, ?>) byPart.invoke(due.get(null))).entrySet()) {
                last = part.getKey().toString();
                all.add(last);
                if (!part.getValue().equals(0)) {
                    wrong.add(last);
                }
            }
            if (!ended[0]) {
                wrong.add(last);
            }
        }
    }

    private static boolean runs(Class<?> type) {
        try {
            Method all = type.getDeclaredMethod("all");
            all.setAccessible(true);
            all.invoke(null);
            return true;
        } catch (ReflectiveOperationException | LinkageError e) {
            return false;
        }
    }
}
