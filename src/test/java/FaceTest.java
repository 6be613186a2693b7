import java.lang.reflect.Constructor;
import java.lang.reflect.Field;
import java.lang.reflect.Member;
import java.lang.reflect.Method;
import java.lang.reflect.Modifier;
import java.util.Set;
import java.util.TreeSet;

/** The document's public face, and the rules of LANGUAGE.md on members that can be seen from outside. */
public final class FaceTest {
    private static final Set<String> METHODS = Set.of(
        "boolean shape(int,int,int,int)", "boolean field(int,int,int,int)", "int build(int)", "int row(int)",
        "boolean set(int,int,int,long)", "boolean link(int,int,int)", "int write(int)", "void clear()", "int at(int)",
        "boolean put(int,int)", "boolean cut(int)", "boolean limit(int,int)",
        "int read() throws IllegalArgumentException,IllegalStateException,UnsupportedOperationException",
        "int position()", "int things(int)", "int thing(int,int,int)", "long get(int,int,int,int)", "int goes(int,int,int)");

    public static void main(String[] args) {
        Class<?> face = ThingStream.class;
        Check.same("class", Modifier.toString(face.getModifiers()), "public final");
        Check.same("NONE", ThingStream.NONE, -1);
        membersAreTheDocuments(face);
        for (Class<?> inside : face.getDeclaredClasses()) {
            Check.yes(inside + " is static", Modifier.isStatic(inside.getModifiers()));
            Check.no(inside + " is public", Modifier.isPublic(inside.getModifiers()));
            namesAreNotTheFaces(inside);
        }
        Check.done();
    }

    private static void membersAreTheDocuments(Class<?> face) {
        Set<String> methods = new TreeSet<>();
        for (Method method : face.getDeclaredMethods()) {
            if (isSeen(method)) {
                methods.add(text(method));
                Check.yes(method + " is public", Modifier.isPublic(method.getModifiers()));
                Check.no(method + " is static", Modifier.isStatic(method.getModifiers()));
            }
        }
        Check.same("methods", methods.toString(), new TreeSet<>(METHODS).toString());
        Set<String> fields = new TreeSet<>();
        for (Field field : face.getDeclaredFields()) {
            if (isSeen(field)) {
                fields.add(Modifier.toString(field.getModifiers()) + " " + field.getType() + " " + field.getName());
            }
        }
        Check.same("fields", fields.toString(), "[public static final int NONE]");
        Constructor<?>[] constructors = face.getDeclaredConstructors();
        Check.same("constructors", constructors.length, 1);
        Check.same("constructor", constructors[0].toString(), "public ThingStream()");
        for (Method method : face.getDeclaredMethods()) {
            Check.no("a private method with a name of the face: " + method, !isSeen(method) && isNameOfFace(method));
        }
    }

    private static void namesAreNotTheFaces(Class<?> inside) {
        for (Method method : inside.getDeclaredMethods()) {
            Check.no("a method with a name of the face: " + method, isNameOfFace(method));
            Check.yes("parameters of " + method, method.getParameterCount() <= 7);
        }
    }

    private static boolean isSeen(Member member) {
        return !Modifier.isPrivate(member.getModifiers()) && !member.isSynthetic();
    }

    private static boolean isNameOfFace(Method method) {
        return METHODS.stream().anyMatch(face -> face.contains(" " + method.getName() + "("));
    }

    private static String text(Method method) {
        StringBuilder text = new StringBuilder(method.getReturnType().getSimpleName());
        text.append(' ').append(method.getName()).append('(').append(list(method.getParameterTypes())).append(')');
        if (method.getExceptionTypes().length > 0) {
            text.append(" throws ").append(list(method.getExceptionTypes()));
        }
        return text.toString();
    }

    private static String list(Class<?>[] types) {
        StringBuilder text = new StringBuilder();
        for (Class<?> type : types) {
            text.append(text.length() == 0 ? "" : ",").append(type.getSimpleName());
        }
        return text.toString();
    }
}
