import java.io.IOException;
import java.lang.reflect.Field;
import java.lang.reflect.Method;
import java.lang.reflect.Modifier;
import java.nio.charset.StandardCharsets;
import java.nio.file.Files;
import java.nio.file.Path;
import java.util.ArrayList;
import java.util.List;
import java.util.Set;
import java.util.TreeMap;
import java.util.TreeSet;
import java.util.regex.Matcher;
import java.util.regex.Pattern;

/**
 * The rules of LANGUAGE.md that can be read from the file and its classes. The class keeps to less
 * than the rules allow; who needs more of them lets more through here.
 */
public final class LanguageTest {
    private static final Path FILE = Path.of("src/main/java/WaferYard.java");
    private static final Set<String> LIBRARY_CALLS =
            Set.of("Integer.compare", "Math.abs", "Math.max", "Math.min", "System.arraycopy");
    private static final Set<String> EXCEPTIONS = Set.of("IllegalStateException", "IllegalArgumentException",
            "IndexOutOfBoundsException", "ArithmeticException", "UnsupportedOperationException",
            "NoSuchElementException");
    private static final String[] WORDS_OUTSIDE = {"package", "try", "catch", "finally", "assert", "synchronized",
        "instanceof", "switch", "volatile", "native", "transient", "strictfp", "abstract", "interface", "extends",
        "equals", "hashCode", "toString", "String", "var", "Object", "super"};
    private static final int MOST_CLASSES = 12;
    private static final int MOST_FIELDS = 20;
    private static final int MOST_PARAMETERS = 7;
    private static final int MOST_LINES = 60;
    private static final int MOST_DEEP = 8;
    /** A head at the start of a line, told by the indentation that the file keeps to. */
    private static final Pattern METHOD_HEAD = Pattern.compile(
            "^( {4}| {8})(?:(?:public|private|static|final) )*(?:[\\w\\[\\]]+ )?(\\w+)\\([^;{]*\\{$", Pattern.MULTILINE);
    private static final Expect EXPECT = new Expect();

    private final String text;
    /** The text without comments and without what stands in quotes; each line is where it was. */
    private final String code;
    /** Bodies by the class and the name of a method; a constructor has the name of its class. */
    private final TreeMap<String, String> bodies = new TreeMap<>();

    private LanguageTest() throws IOException {
        text = Files.readString(FILE, StandardCharsets.ISO_8859_1);
        code = text.replaceAll("(?s)/\\*.*?\\*/", "").replaceAll("//[^\n]*", "")
                .replaceAll("'.'", "' '").replaceAll("\"[^\"\n]*\"", "\"\"");
        findBodies();
    }

    public static void main(String[] args) throws IOException {
        LanguageTest test = new LanguageTest();
        test.hasTheWordsOfTheRulesAlone();
        test.callsTheLibraryThatIsListed();
        test.throwsAsTold();
        test.makesObjectsInConstructorsAlone();
        test.staysShort();
        test.staysFlat();
        test.overlooksNoMethod();
        hasClassesAsTold();
        EXPECT.end();
    }

    private void findBodies() {
        String owner = "WaferYard";
        Matcher heads = Pattern.compile("^ {4}private static final class (\\w+) \\{$|" + METHOD_HEAD.pattern(),
                Pattern.MULTILINE).matcher(code);
        while (heads.find()) {
            if (heads.group(1) != null) {
                owner = heads.group(1);
            } else {
                int end = code.indexOf("\n" + heads.group(2) + "}\n", heads.end());
                String before = bodies.put(owner + "." + heads.group(3), code.substring(heads.end(), end));
                EXPECT.same("one of its name: " + heads.group(3), before == null, true);
            }
        }
    }

    private boolean hasWord(String word) {
        return Pattern.compile("\\b" + word + "\\b").matcher(code).find();
    }

    private void hasTheWordsOfTheRulesAlone() {
        EXPECT.same("signs 1 to 127", text.chars().allMatch(sign -> sign >= 1 && sign <= 127), true);
        EXPECT.sameText("imports", String.join("\n", all("import ([\\w.]+);")), "java.util.NoSuchElementException");
        for (String word : WORDS_OUTSIDE) {
            EXPECT.same("without " + word, hasWord(word), false);
        }
        EXPECT.same("without lambdas", code.contains("->"), false);
        EXPECT.same("without method references", code.contains("::"), false);
        EXPECT.same("without arrays of two dimensions", code.contains("][") || code.contains("[][]"), false);
    }

    private TreeSet<String> all(String pattern) {
        TreeSet<String> found = new TreeSet<>();
        Matcher matcher = Pattern.compile(pattern).matcher(code);
        while (matcher.find()) {
            found.add(matcher.group(1));
        }
        return found;
    }

    private void callsTheLibraryThatIsListed() {
        for (String call : all("\\b([A-Z]\\w*[a-z]\\w*\\.\\w+\\()")) {
            EXPECT.same("in the library: " + call, LIBRARY_CALLS.contains(call.substring(0, call.length() - 1)), true);
        }
    }

    private void throwsAsTold() {
        for (String thrown : all("\\bthrow\\b([^;]*);")) {
            boolean is = thrown.startsWith(" new ") && thrown.endsWith("()")
                    && EXCEPTIONS.contains(thrown.substring(5, thrown.length() - 2));
            EXPECT.same("throw" + thrown, is, true);
        }
        for (String name : bodies.keySet()) {
            if (isConstructor(name)) {
                EXPECT.same("no throw in " + name, bodies.get(name).contains("throw"), false);
            }
        }
    }

    private static boolean isConstructor(String name) {
        String[] parts = name.split("\\.");
        return parts[0].equals(parts[1]);
    }

    private void makesObjectsInConstructorsAlone() {
        for (String name : bodies.keySet()) {
            String body = bodies.get(name).replaceAll("throw new ", "");
            EXPECT.same("makes nothing: " + name, !isConstructor(name) && body.contains("new "), false);
        }
    }

    private void staysShort() {
        for (String name : bodies.keySet()) {
            long lines = bodies.get(name).lines().count();
            EXPECT.same("lines of " + name + ": " + lines, lines <= MOST_LINES, true);
        }
    }

    private List<String> calledBy(String name) {
        String owner = name.split("\\.")[0];
        List<String> called = new ArrayList<>();
        Matcher calls = Pattern.compile("(\\.)?\\b(\\w+)\\(").matcher(bodies.get(name));
        while (calls.find()) {
            for (String other : bodies.keySet()) {
                // In this file a call behind a dot goes to an object of another class.
                boolean isOwn = other.startsWith(owner + ".");
                if (other.endsWith("." + calls.group(2)) && isOwn == (calls.group(1) == null)) {
                    called.add(other);
                }
            }
        }
        return called;
    }

    private int depth(String name, int above) {
        if (above > MOST_DEEP) {
            return 1;
        }
        int below = 0;
        for (String called : calledBy(name)) {
            below = Math.max(below, depth(called, above + 1));
        }
        return 1 + below;
    }

    private void staysFlat() {
        for (Method m : WaferYard.class.getDeclaredMethods()) {
            if (Modifier.isPublic(m.getModifiers())) {
                int deep = depth("WaferYard." + m.getName(), 1);
                EXPECT.same("calls below " + m.getName() + ": " + deep, deep <= MOST_DEEP, true);
            }
        }
        EXPECT.same("calls are read", depth("WaferYard.pass", 1) >= 5, true);
    }

    private void overlooksNoMethod() {
        List<Class<?>> classes = new ArrayList<>(List.of(WaferYard.class.getDeclaredClasses()));
        classes.add(WaferYard.class);
        for (Class<?> one : classes) {
            for (Method m : one.getDeclaredMethods()) {
                String name = one.getSimpleName() + "." + m.getName();
                EXPECT.same("read: " + name, bodies.containsKey(name), true);
            }
        }
    }

    private static void hasClassesAsTold() {
        Class<?>[] inside = WaferYard.class.getDeclaredClasses();
        EXPECT.same("classes: " + inside.length, inside.length < MOST_CLASSES, true);
        for (Class<?> one : inside) {
            EXPECT.same("private static final: " + one,
                    Modifier.toString(one.getModifiers()).equals("private static final"), true);
            hasFieldsAndMethodsAsTold(one);
        }
        hasFieldsAndMethodsAsTold(WaferYard.class);
    }

    private static void hasFieldsAndMethodsAsTold(Class<?> one) {
        int fields = 0;
        for (Field f : one.getDeclaredFields()) {
            if (Modifier.isStatic(f.getModifiers())) {
                boolean isNumber = f.getType() == int.class || f.getType() == char.class;
                EXPECT.same("a constant: " + f, isNumber && Modifier.isFinal(f.getModifiers()), true);
            } else {
                fields++;
            }
        }
        EXPECT.same("fields of " + one + ": " + fields, fields <= MOST_FIELDS, true);
        for (Method m : one.getDeclaredMethods()) {
            EXPECT.same("parameters of " + m, m.getParameterCount() <= MOST_PARAMETERS, true);
        }
    }
}
