import java.lang.reflect.Constructor;
import java.lang.reflect.Field;
import java.lang.reflect.Method;
import java.lang.reflect.Modifier;
import java.util.Set;
import java.util.TreeSet;

/** The public face, and the rules of the language that can be seen from outside of the methods. */
public final class FaceTest {
    private static final String ARGUMENT = " throws IllegalArgumentException";
    private static final String BOTH = ARGUMENT + ", IllegalStateException";
    private static final Set<String> FACE = Set.of(
        "void put(int, long, int)" + BOTH, "int empty(int)" + ARGUMENT, "int pack(int)" + ARGUMENT,
        "int unpack(int)" + ARGUMENT, "int size(int)" + ARGUMENT, "int get(int, int)" + BOTH,
        "int found(int)" + ARGUMENT, "int crc(int)" + ARGUMENT, "int hash(int, int)" + ARGUMENT);
    private static final int MOST_PARAMETERS = 7;

    public static void main(String[] args) {
        Class<?> face = PressSuite.class;
        Check.isTrue("public and final", Modifier.isPublic(face.getModifiers()) && Modifier.isFinal(face.getModifiers()));
        Constructor<?>[] constructors = face.getDeclaredConstructors();
        Check.isTrue("one public constructor without arguments", constructors.length == 1
            && constructors[0].getParameterCount() == 0 && Modifier.isPublic(constructors[0].getModifiers()));
        methods(face);
        fields(face);
        parameters(face);
        for (Class<?> inside : face.getDeclaredClasses()) {
            int m = inside.getModifiers();
            Check.isTrue(inside + " is static and not public", Modifier.isStatic(m) && !Modifier.isPublic(m));
            fields(inside);
            parameters(inside);
        }
        Check.isTrue("some twelve classes", face.getDeclaredClasses().length <= 12);
        Check.finish();
    }

    private static void methods(Class<?> face) {
        Set<String> names = new TreeSet<>();
        Set<String> seen = new TreeSet<>();
        for (Method method : face.getDeclaredMethods()) {
            if (Modifier.isPublic(method.getModifiers())) {
                names.add(method.getName());
                seen.add(signature(method));
            }
        }
        Check.isTrue("the public methods " + seen, seen.equals(FACE));
        for (Method method : face.getDeclaredMethods()) {
            int m = method.getModifiers();
            Check.isTrue(method + " is public or private", Modifier.isPublic(m) || Modifier.isPrivate(m));
            Check.isTrue(method + " has a name of its own", Modifier.isPublic(m) || !names.contains(method.getName()));
        }
    }

    private static void fields(Class<?> owner) {
        for (Field field : owner.getDeclaredFields()) {
            int m = field.getModifiers();
            Check.isTrue(field + " is private", owner != PressSuite.class || Modifier.isPrivate(m));
            Check.isTrue(field + " is final if static", !Modifier.isStatic(m) || Modifier.isFinal(m));
        }
    }

    private static void parameters(Class<?> owner) {
        for (Method method : owner.getDeclaredMethods()) {
            Check.isTrue(method + " has few parameters", method.getParameterCount() <= MOST_PARAMETERS);
        }
    }

    private static String signature(Method method) {
        StringBuilder out = new StringBuilder();
        out.append(method.getReturnType().getName()).append(' ').append(method.getName()).append('(');
        for (Class<?> type : method.getParameterTypes()) {
            out.append(out.charAt(out.length() - 1) == '(' ? "" : ", ").append(type.getName());
        }
        out.append(')');
        for (Class<?> type : method.getExceptionTypes()) {
            out.append(out.indexOf(" throws ") < 0 ? " throws " : ", ").append(type.getSimpleName());
        }
        return out.toString();
    }
}
