import java.io.IOException;
import java.lang.reflect.Method;
import java.lang.reflect.Modifier;
import java.util.ArrayList;
import java.util.HashMap;
import java.util.HashSet;
import java.util.List;
import java.util.Map;
import java.util.Set;

/** LANGUAGE.md by the built classes: what they name of the library is listed there (rules 4, 6, 10); how deep calls go (rule 11). */
public final class LibraryTest {
    private static final int DEEPEST = 8;
    private static final Set<String> EXCEPTIONS = Set.of("IllegalStateException", "IllegalArgumentException", "IndexOutOfBoundsException",
        "ArithmeticException", "UnsupportedOperationException", "NoSuchElementException", "RuntimeException");
    private static final Map<String, String> MAY = new HashMap<>();
    private static final Due due = new Due();

    static {
        MAY.put("java/lang/Object", "<init>");
        MAY.put("java/lang/String", "length charAt isEmpty equals indexOf substring toCharArray <init>");
        MAY.put("java/lang/StringBuilder", "<init> append charAt setCharAt setLength deleteCharAt reverse length toString");
        MAY.put("java/util/ArrayList", "<init> add get set remove size isEmpty clear iterator");
        MAY.put("java/util/List", "add get set remove size isEmpty clear iterator of");
        MAY.put("java/util/Iterator", "hasNext next");
        MAY.put("java/lang/Iterable", "iterator");
        MAY.put("java/lang/Comparable", "compareTo");
        MAY.put("java/lang/System", "arraycopy");
        MAY.put("java/util/Arrays", "copyOf copyOfRange fill");
        MAY.put("java/lang/Enum", "<init> valueOf ordinal");
        MAY.put("java/lang/Record", "<init>");
    }

    public static void main(String[] args) throws IOException {
        List<ClassFile> built = new ArrayList<>();
        built.add(new ClassFile(CaughtHand.class));
        for (Class<?> inside : CaughtHand.class.getDeclaredClasses()) {
            built.add(new ClassFile(inside));
        }
        due.part("the library");
        for (ClassFile c : built) {
            listed(c);
        }
        due.part("how deep calls go");
        deep(built);
        due.end();
    }

    private static void listed(ClassFile c) {
        for (String name : c.classes) {
            due.so(c.file + " may name " + name, isOwn(name) || isListed(name));
        }
        for (String[] m : c.members) {
            due.so(c.file + " may use " + String.join(" ", m), isOwn(m[0]) || mayCall(m[0], m[1], m[2]));
        }
    }

    private static boolean isOwn(String name) {
        return name.equals("CaughtHand") || name.startsWith("CaughtHand$") || name.startsWith("[");
    }

    private static boolean isListed(String name) {
        return MAY.containsKey(name) || isCounting(name) || isException(name);
    }

    private static boolean isException(String name) {
        return EXCEPTIONS.contains(name.replaceFirst("java/(lang|util)/", ""));
    }

    private static boolean isCounting(String name) {
        return List.of("java/lang/Math", "java/lang/Integer", "java/lang/Long").contains(name);
    }

    private static boolean mayCall(String owner, String name, String type) {
        if (isCounting(owner)) {
            return !name.endsWith("Exact") && type.matches("\\([IJ]*\\)[IJZ]|\\(I\\)Ljava/lang/Integer;");
        }
        if (isException(owner)) {
            return name.equals("<init>") && type.matches("\\((Ljava/lang/String;)?\\)V");
        }
        return MAY.containsKey(owner) && List.of(MAY.get(owner).split(" ")).contains(name);
    }

    private static void deep(List<ClassFile> built) {
        Map<String, List<String>> callsOf = new HashMap<>();
        for (ClassFile c : built) {
            callsOf.putAll(c.callsOf);
        }
        for (Method m : CaughtHand.class.getDeclaredMethods()) {
            if (Modifier.isPublic(m.getModifiers())) {
                String call = "CaughtHand." + m.getName() + m.toString().replaceFirst(".*\\(", "(").replaceAll("int,?", "I").replace("long", "J") + "I";
                due.so(call + " is found", callsOf.containsKey(call));
                int depth = depth(call, callsOf, new HashSet<>());
                due.so(call + " is " + depth + " calls deep", depth <= DEEPEST);
            }
        }
    }

    /** The call itself counts, the library's own do not, nor does one that is open already (a recursion). */
    private static int depth(String call, Map<String, List<String>> callsOf, Set<String> open) {
        if (!callsOf.containsKey(call) || !open.add(call)) {
            return 0;
        }
        int deepest = 0;
        for (String next : callsOf.get(call)) {
            deepest = Math.max(deepest, depth(next, callsOf, open));
        }
        open.remove(call);
        return 1 + deepest;
    }
}
