import java.lang.reflect.Constructor;
import java.lang.reflect.Field;
import java.lang.reflect.Member;
import java.lang.reflect.Method;
import java.lang.reflect.Modifier;
import java.util.Arrays;
import java.util.Set;
import java.util.TreeSet;

/** The public face is the document's, and nothing else can be seen (rules 1 and 5 of the language). */
public final class FaceTest {
    private static final Checks CHECKS = new Checks();
    private static final Set<String> FACE = Set.of(
            "boolean key[int, long]", "boolean initial[int, long]", "int begin[int, int, int]", "int feed[long, int]",
            "int end[]", "int given[int]", "long block[int, int, int]", "int box[int, int]", "int product[int, int]");

    public static void main(String[] args) {
        Class<?> face = CipherModes.class;
        CHECKS.due("public and final", Modifier.isPublic(face.getModifiers()) && Modifier.isFinal(face.getModifiers()), true);
        Constructor<?>[] constructors = face.getDeclaredConstructors();
        CHECKS.due("one constructor", constructors.length, 1);
        CHECKS.due("without parameters", constructors[0].getParameterCount(), 0);
        methods(face);
        fields(face);
        for (Class<?> inside : face.getDeclaredClasses()) {
            CHECKS.due(inside + " is static", Modifier.isStatic(inside.getModifiers()), true);
            staticFieldsAreFinal(inside);
        }
        CHECKS.close("FaceTest");
    }

    private static void methods(Class<?> face) {
        Set<String> seen = new TreeSet<>();
        for (Method method : face.getDeclaredMethods()) {
            if (Modifier.isPublic(method.getModifiers()) && !Modifier.isStatic(method.getModifiers())) {
                seen.add(method.getReturnType() + " " + method.getName() + Arrays.toString(method.getParameterTypes()));
            } else {
                duePrivate(method);
            }
        }
        CHECKS.due("methods " + seen, seen.equals(FACE), true);
    }

    private static void fields(Class<?> face) {
        Set<String> constants = new TreeSet<>();
        for (Field field : face.getDeclaredFields()) {
            if (Modifier.isPublic(field.getModifiers())) {
                constants.add(field.getType() + " " + field.getName());
            } else {
                duePrivate(field);
            }
        }
        CHECKS.due("constants " + constants, constants.equals(Set.of("int BAD", "int NO", "int FULL")), true);
        staticFieldsAreFinal(face);
    }

    private static void duePrivate(Member member) {
        CHECKS.due(member + " is private", Modifier.isPrivate(member.getModifiers()), true);
    }

    private static void staticFieldsAreFinal(Class<?> type) {
        for (Field field : type.getDeclaredFields()) {
            if (Modifier.isStatic(field.getModifiers())) {
                CHECKS.due(field + " is final", Modifier.isFinal(field.getModifiers()), true);
            }
        }
    }
}
