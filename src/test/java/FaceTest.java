import java.io.IOException;
import java.lang.reflect.Constructor;
import java.lang.reflect.Field;
import java.lang.reflect.Method;
import java.lang.reflect.Modifier;
import java.nio.file.Files;
import java.nio.file.Path;
import java.util.List;
import java.util.TreeSet;

/** The face of the class, and those rules of LANGUAGE.md that can be looked up. */
public final class FaceTest {
    private static final String FACE = "person iiii, of ii, till ii, sit ii, at i, dry ii, weather i, lasting i, type i, office , count i, "
        + "days i, drift i, undo , seed i, writes ii, cheque i, out iii, seats iiiii, who ii, likely iiii, most iii, dryOut ii, forger iiii, "
        + "two ii, tree , signature i, image , restore , lasted iiiii, film iiiii, sheet iii, drop i, item iiil, copy iiiii";
    private static final String[] NAMES = {"BAD", "NOT", "FULL", "NONE", "NULL", "CAST", "INDEX", "SIZE"};
    private static final int[] VALUES = {-1, -2, -3, -4, -11, -12, -13, -14};
    private static final String[] FORBIDDEN = {"package ", "finally", "synchronized", "assert", "->", "::", "Exact(", "getClass", "System.out",
        "System.in", "System.err", "System.nano", "System.current", "System.identity", "Thread", "Random", "native", "volatile", "transient",
        "hashCode", "getMessage", "NullPointer", "ArrayIndexOutOf", "StringIndexOutOf", "ClassCast", "NegativeArray", "ArrayStore",
        "StackOverflow", "OutOfMemory", "Throwable", "(Exception ", "catch (Error"};
    private static final Due due = new Due();

    public static void main(String[] args) throws IOException {
        due.part("face");
        face();
        constants();
        due.part("classes inside");
        inside();
        due.part("source");
        source();
        due.end();
    }

    private static void face() {
        TreeSet<String> want = new TreeSet<>(List.of(FACE.split(", ")));
        TreeSet<String> got = new TreeSet<>();
        for (Method m : CaughtHand.class.getDeclaredMethods()) {
            if (Modifier.isPublic(m.getModifiers())) {
                got.add(told(m));
                holds(m.getName() + " answers an int, not static", m.getReturnType() == int.class && !Modifier.isStatic(m.getModifiers()));
            } else {
                holds(m.getName() + " is private", Modifier.isPrivate(m.getModifiers()));
                holds(m.getName() + " bears no public name", !bearsPublicName(m));
            }
        }
        holds("methods " + got, got.equals(want));
        int mods = CaughtHand.class.getModifiers();
        holds("public and final", Modifier.isPublic(mods) && Modifier.isFinal(mods));
        Constructor<?>[] all = CaughtHand.class.getDeclaredConstructors();
        holds("one constructor", all.length == 1 && all[0].getParameterCount() == 0 && Modifier.isPublic(all[0].getModifiers()));
    }

    private static String told(Method m) {
        StringBuilder s = new StringBuilder(m.getName()).append(' ');
        for (Class<?> c : m.getParameterTypes()) {
            s.append(c == int.class ? 'i' : c == long.class ? 'l' : '?');
        }
        return s.toString();
    }

    private static void constants() {
        int found = 0;
        for (Field f : CaughtHand.class.getDeclaredFields()) {
            if (!Modifier.isPublic(f.getModifiers())) {
                holds(f.getName() + " is private", Modifier.isPrivate(f.getModifiers()));
                continue;
            }
            found++;
            for (int k = 0; k < NAMES.length; k++) {
                if (NAMES[k].equals(f.getName())) {
                    due.is(NAMES[k], valueOf(f), VALUES[k]);
                }
            }
        }
        due.is("public constants", found, NAMES.length);
    }

    private static int valueOf(Field f) {
        try {
            return f.getInt(null);
        } catch (IllegalAccessException e) {
            return 0;
        }
    }

    private static void inside() {
        Class<?>[] all = CaughtHand.class.getDeclaredClasses();
        holds("some twelve classes", all.length <= 12);
        members(CaughtHand.class);
        for (Class<?> c : all) {
            holds(c + " is static and not open", Modifier.isStatic(c.getModifiers()) && !Modifier.isPublic(c.getModifiers()) && !Modifier.isProtected(c.getModifiers()));
            members(c);
            for (Method m : c.getDeclaredMethods()) {
                holds(m + " bears no public name", !Modifier.isPrivate(m.getModifiers()) || !bearsPublicName(m));
            }
        }
    }

    private static boolean bearsPublicName(Method m) {
        return (FACE + ",").matches("(.*, )?" + m.getName().replace("$", "\\$") + " [il]*,.*");
    }

    private static void members(Class<?> c) {
        int fields = 0;
        for (Field f : c.getDeclaredFields()) {
            if (!Modifier.isStatic(f.getModifiers())) {
                fields++;
            } else {
                holds(f + " is final", Modifier.isFinal(f.getModifiers()));
            }
        }
        holds(c + " has some twenty fields at most", fields <= 20);
        for (Method m : c.getDeclaredMethods()) {
            holds(m + " takes seven at most", m.getParameterCount() <= 7);
        }
    }

    private static void source() throws IOException {
        List<String> lines = Files.readAllLines(Path.of("src/main/java/CaughtHand.java"));
        int begun = 0;
        for (int k = 0; k < lines.size(); k++) {
            String line = lines.get(k);
            String code = line.trim().startsWith("/*") || line.trim().startsWith("*") ? "" : line.replaceAll("//.*", "");
            for (String word : FORBIDDEN) {
                holds("line " + (k + 1) + " has no " + word, !code.contains(word));
            }
            holds("line " + (k + 1) + " imports what it may", !code.startsWith("import ")
                || code.matches("import java\\.util\\.(ArrayList|List|Arrays|Iterator|NoSuchElementException);"));
            for (int i = 0; i < line.length(); i++) {
                holds("line " + (k + 1) + " is of plain signs", line.charAt(i) >= 32 && line.charAt(i) < 127);
            }
            if (code.matches("( {4}| {8})[a-zA-Z].*\\) \\{")) {
                begun = k;
            }
            if (code.matches("( {4}| {8})\\}")) {
                holds("the method at line " + (begun + 1) + " is short", k - begun <= 60);
            }
        }
    }

    private static void holds(String what, boolean so) {
        due.is(what, so ? 1 : 0, 1);
    }
}
