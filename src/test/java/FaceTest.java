import java.lang.reflect.Constructor;
import java.lang.reflect.Field;
import java.lang.reflect.Method;
import java.lang.reflect.Modifier;
import java.util.Arrays;
import java.util.Set;
import java.util.TreeSet;

/** "The public face": the class has it and shows nothing else. */
final class FaceTest {
    private static final Checks CHECKS = new Checks();
    private static final String INDEX = " throws ArrayIndexOutOfBoundsException";
    private static final String ARGUMENT = " throws IllegalArgumentException";
    private static final String BOTH = " throws ArrayIndexOutOfBoundsException IllegalArgumentException";
    private static final Set<String> DUE = new TreeSet<>(Arrays.asList(
            "boolean symmetry(int)",
            "void theme(int int)" + BOTH,
            "void aim(int int int)" + ARGUMENT,
            "int make(long int)",
            "int given(int)" + INDEX,
            "int answer(int)" + INDEX,
            "int told(int)",
            "int left()",
            "boolean needed(int)" + INDEX,
            "int answers()",
            "boolean unit(int)",
            "int text(int)"));

    public static void main(String[] args) {
        Class<?> type = SeedMakers.class;
        CHECKS.holds("public and final", Modifier.isPublic(type.getModifiers()) && Modifier.isFinal(type.getModifiers()));
        Set<String> got = new TreeSet<>();
        for (Method method : type.getDeclaredMethods()) {
            if (!Modifier.isPrivate(method.getModifiers())) {
                CHECKS.holds(method + " is public", Modifier.isPublic(method.getModifiers()));
                CHECKS.fails(method + " is static", Modifier.isStatic(method.getModifiers()));
                got.add(shape(method));
            }
        }
        CHECKS.holds("methods " + got, got.equals(DUE));
        for (Field field : type.getDeclaredFields()) {
            CHECKS.holds(field + " is private", Modifier.isPrivate(field.getModifiers()));
        }
        Constructor<?>[] constructors = type.getDeclaredConstructors();
        CHECKS.same("constructors", constructors.length, 1);
        CHECKS.holds("constructor (int)", Arrays.equals(constructors[0].getParameterTypes(), new Class<?>[] {int.class}));
        CHECKS.holds("constructor is public", Modifier.isPublic(constructors[0].getModifiers()));
        for (Class<?> inside : type.getDeclaredClasses()) {
            CHECKS.holds(inside + " is static", Modifier.isStatic(inside.getModifiers()));
            CHECKS.fails(inside + " is public", Modifier.isPublic(inside.getModifiers()));
        }
        CHECKS.end();
    }

    private static String shape(Method method) {
        StringBuilder shape = new StringBuilder();
        shape.append(method.getReturnType().getSimpleName()).append(' ').append(method.getName());
        shape.append('(').append(names(method.getParameterTypes())).append(')');
        if (method.getExceptionTypes().length > 0) {
            shape.append(" throws ").append(names(method.getExceptionTypes()));
        }
        return shape.toString();
    }

    private static String names(Class<?>[] types) {
        return String.join(" ", Arrays.stream(types).map(Class::getSimpleName).toArray(String[]::new));
    }
}
