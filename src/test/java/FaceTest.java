import java.lang.reflect.Constructor;
import java.lang.reflect.Field;
import java.lang.reflect.Member;
import java.lang.reflect.Method;
import java.lang.reflect.Modifier;
import java.util.Arrays;
import java.util.Set;
import java.util.TreeSet;
import java.util.stream.Collectors;

/** The document's public face: the class, its constant, its constructor, its methods, and what each may throw. */
public final class FaceTest {
    private static final Check CHECK = new Check("FaceTest");
    private static final Class<?> FACE = VectorLanguage.class;
    private static final Set<String> METHODS = Set.of(
            "int expression(int, int, int, int) throws IllegalArgumentException, IllegalStateException",
            "int run(int) throws NoSuchElementException, IndexOutOfBoundsException, IllegalStateException,"
                    + " UnsupportedOperationException, ArithmeticException",
            "int element(int) throws IllegalStateException, IndexOutOfBoundsException",
            "int failure()",
            "int variable(int) throws IllegalArgumentException",
            "int value(int, int) throws IllegalArgumentException, NoSuchElementException",
            "int reset()",
            "int count(int) throws IllegalArgumentException");

    public static void main(String[] args) {
        classItself();
        constant();
        constructor();
        methods();
        CHECK.end();
    }

    private static void classItself() {
        CHECK.due("modifiers", "public final", Modifier.toString(FACE.getModifiers()));
        CHECK.due("name, without a package", "VectorLanguage", FACE.getName());
        CHECK.due("class above", Object.class, FACE.getSuperclass());
        CHECK.due("interfaces", 0, FACE.getInterfaces().length);
        CHECK.due("type parameters", 0, FACE.getTypeParameters().length);
        CHECK.due("classes shown", 0, FACE.getClasses().length);
    }

    private static void constant() {
        Set<String> shown = new TreeSet<>();
        for (Field field : FACE.getDeclaredFields()) {
            if (isShown(field)) {
                shown.add(Modifier.toString(field.getModifiers()) + " " + field.getType() + " " + field.getName());
            }
        }
        CHECK.due("fields", Set.of("public static final int NA"), shown);
        CHECK.due("NA", -2147483648, VectorLanguage.NA);
    }

    private static void constructor() {
        Constructor<?>[] constructors = FACE.getDeclaredConstructors();
        CHECK.due("constructors", 1, constructors.length);
        CHECK.due("constructor", "public VectorLanguage()", constructors[0].toString());
    }

    private static void methods() {
        Set<String> shown = new TreeSet<>();
        for (Method method : FACE.getDeclaredMethods()) {
            if (isShown(method)) {
                CHECK.due("modifiers of " + method.getName(), "public", Modifier.toString(method.getModifiers()));
                shown.add(told(method));
            }
        }
        CHECK.due("methods", new TreeSet<>(METHODS), shown);
    }

    private static boolean isShown(Member member) {
        return !Modifier.isPrivate(member.getModifiers());
    }

    private static String told(Method method) {
        String thrown = names(method.getExceptionTypes());
        return method.getReturnType() + " " + method.getName() + "(" + names(method.getParameterTypes()) + ")"
                + (thrown.isEmpty() ? "" : " throws " + thrown);
    }

    private static String names(Class<?>[] types) {
        return Arrays.stream(types).map(Class::getSimpleName).collect(Collectors.joining(", "));
    }
}
