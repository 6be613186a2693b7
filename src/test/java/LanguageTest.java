import java.io.IOException;
import java.lang.reflect.Array;
import java.lang.reflect.Field;
import java.lang.reflect.Modifier;
import java.nio.file.Files;
import java.nio.file.Path;
import java.util.ArrayDeque;
import java.util.ArrayList;
import java.util.Deque;
import java.util.IdentityHashMap;
import java.util.List;
import java.util.Map;
import java.util.Set;
import java.util.regex.Matcher;
import java.util.regex.Pattern;

/** Those rules of LANGUAGE.md that a program can look at (rule 1 is in FaceTest), and the room that an object takes. */
public final class LanguageTest {
    private static final Path SOURCE = Path.of("src/main/java/ThingStream.java");
    private static final int MOST_CLASSES = 12;
    private static final int MOST_FIELDS = 20;
    private static final int MOST_LINES = 60;
    // Far below the 600,000 objects and 7.3 million elements that all calls of one run may have.
    private static final int MOST_OBJECTS = 60;
    private static final int MOST_ELEMENTS = 8000;

    public static void main(String[] args) throws IOException, IllegalAccessException {
        String code = codeOf(Files.readString(SOURCE));
        libraryIsListed(code);
        wordsAreAllowed(code);
        exceptionsAreListed(code);
        methodsAreShort(code);
        classesAreFewAndSmall();
        roomIsSmallAndStays();
        Check.done();
    }

    /** Without comments and what stands in texts. */
    private static String codeOf(String source) {
        return source.replaceAll("(?s)/\\*.*?\\*/", "").replaceAll("//[^\n]*", "").replaceAll("\"[^\"\n]*\"", "\"\"");
    }

    private static List<String> found(String code, String pattern) {
        List<String> found = new ArrayList<>();
        Matcher matcher = Pattern.compile(pattern).matcher(code);
        while (matcher.find()) {
            found.add(matcher.group(1));
        }
        return found;
    }

    private static void none(String what, List<String> found) {
        Check.same(what, String.join(", ", found), "");
    }

    /** Rule 4. */
    private static void libraryIsListed(String code) {
        Set<String> listed = Set.of("java.util.Arrays", "java.util.ArrayList", "java.util.List", "java.util.Iterator");
        List<String> imports = found(code, "import\\s+([\\w.* ]+);");
        imports.removeAll(listed);
        none("imports", imports);
        none("packages", found(code, "(\\bpackage\\b)"));
        List<String> ofArrays = found(code, "\\bArrays\\.(\\w+)");
        ofArrays.removeAll(Set.of("copyOf", "copyOfRange", "fill"));
        none("functions of Arrays", ofArrays);
        List<String> ofSystem = found(code, "\\bSystem\\.(\\w+)");
        ofSystem.removeAll(Set.of("arraycopy"));
        none("functions of System", ofSystem);
    }

    /** Rules 2, 4, 6 and 13. */
    private static void wordsAreAllowed(String code) {
        none("words", found(code, "\\b(finally|synchronized|assert|volatile|transient|native|var|yield|Thread|Runtime"
            + "|Random|random|equals|hashCode|toString|getMessage|Object|\\w+Exact)\\b"));
        none("lambdas and references to methods", found(code, "(->|::)"));
    }

    /** Rule 6; only what the document's read throws is ever thrown, and nothing is caught. */
    private static void exceptionsAreListed(String code) {
        List<String> thrown = found(code, "\\bthrow\\s+([^;]*);");
        Check.yes("something is thrown", !thrown.isEmpty());
        thrown.removeAll(Set.of("new IllegalArgumentException()", "new IllegalStateException()",
            "new UnsupportedOperationException()"));
        none("what is thrown", thrown);
        none("tries", found(code, "\\b(try|catch)\\b"));
    }

    /** Rule 11: from a line that opens a method to the one that closes it at the same depth. */
    private static void methodsAreShort(String code) {
        String opened = null;
        int lines = 0;
        int methods = 0;
        for (String line : code.split("\n")) {
            lines++;
            if (opened == null && line.matches(" {4}( {4})?\\w.*\\).*\\{")) {
                opened = line;
                lines = 1;
                methods++;
            } else if (opened != null && line.equals(opened.replaceFirst("\\w.*", "") + "}")) {
                Check.yes(opened.strip() + " has at most 60 lines", lines <= MOST_LINES);
                opened = null;
            }
        }
        Check.yes("methods were found", methods > 40 && opened == null);
    }

    private static List<Class<?>> classes() {
        List<Class<?>> all = new ArrayList<>(List.of(ThingStream.class.getDeclaredClasses()));
        all.add(ThingStream.class);
        return all;
    }

    /** Rules 5 and 11. */
    private static void classesAreFewAndSmall() {
        Check.yes("classes", classes().size() <= MOST_CLASSES);
        for (Class<?> one : classes()) {
            int fields = 0;
            for (Field field : one.getDeclaredFields()) {
                if (!Modifier.isStatic(field.getModifiers())) {
                    fields++;
                    continue;
                }
                Check.yes(field + " is final", Modifier.isFinal(field.getModifiers()));
                Check.yes(field + " is of a type for constants", Set.of(int.class, long.class, boolean.class, char.class,
                    String.class, int[].class, long[].class, char[].class, byte[].class).contains(field.getType()));
            }
            Check.yes("fields of " + one, fields <= MOST_FIELDS);
        }
    }

    /** All that an object ever holds is made by its constructor. */
    private static void roomIsSmallAndStays() throws IllegalAccessException {
        ThingStream x = new ThingStream();
        int[] atFirst = roomOf(x);
        Check.yes("objects: " + atFirst[0], atFirst[0] <= MOST_OBJECTS);
        Check.yes("elements: " + atFirst[1], atFirst[1] <= MOST_ELEMENTS);
        for (int side = 0; side <= 1; side++) {
            x.shape(side, 5, -1, 0);
            x.field(side, 5, 0, 4);
        }
        for (int k = 0; k < 24; k++) {
            x.build(5);
            x.set(k, 5, 0, k - 1);
        }
        x.write(9);
        Check.same("read of ten records", x.read(), 10);
        x.write(23);
        x.row(5);
        x.clear();
        x.row(5);
        int[] then = roomOf(x);
        Check.same("objects behind calls", then[0], atFirst[0]);
        Check.same("elements behind calls", then[1], atFirst[1]);
    }

    /** How many objects and arrays can be reached, and how many fields and elements they have. */
    private static int[] roomOf(Object root) throws IllegalAccessException {
        Map<Object, Boolean> seen = new IdentityHashMap<>();
        Deque<Object> open = new ArrayDeque<>(List.of(root));
        int elements = 0;
        while (!open.isEmpty()) {
            Object next = open.pop();
            if (seen.put(next, true) == null) {
                elements += next.getClass().isArray() ? openArray(next, open) : openObject(next, open);
            }
        }
        return new int[] {seen.size(), elements};
    }

    private static int openArray(Object array, Deque<Object> open) {
        int length = Array.getLength(array);
        for (int k = 0; k < length && !array.getClass().getComponentType().isPrimitive(); k++) {
            if (Array.get(array, k) != null) {
                open.push(Array.get(array, k));
            }
        }
        return length;
    }

    private static int openObject(Object object, Deque<Object> open) throws IllegalAccessException {
        int fields = 0;
        for (Field field : object.getClass().getDeclaredFields()) {
            if (Modifier.isStatic(field.getModifiers())) {
                continue;
            }
            fields++;
            field.setAccessible(true);
            if (!field.getType().isPrimitive() && field.get(object) != null) {
                open.push(field.get(object));
            }
        }
        return fields;
    }
}
