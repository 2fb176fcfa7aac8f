import java.lang.reflect.Constructor;
import java.lang.reflect.Field;
import java.lang.reflect.Method;
import java.lang.reflect.Modifier;
import java.util.Arrays;
import java.util.Set;
import java.util.TreeSet;
import java.util.stream.Collectors;

/** The public face: the constructor, the 14 methods, the exceptions of each, and nothing else. */
public final class FaceTest extends Checks {
    private static final String[] FACE = {
        "int feed(int, int, int, int, int) throws IndexOutOfBoundsException",
        "int end(int) throws IllegalArgumentException",
        "int text()",
        "int input()",
        "int ssa() throws IllegalStateException, ArithmeticException",
        "int pass(int) throws IllegalArgumentException, IllegalStateException",
        "int plain() throws IllegalStateException, ArithmeticException",
        "int run(int) throws IllegalArgumentException, IllegalStateException",
        "int told(int) throws IllegalArgumentException",
        "int shown(int) throws IndexOutOfBoundsException",
        "int count(int) throws IllegalArgumentException",
        "int block(int, int) throws IllegalArgumentException, NoSuchElementException",
        "int list() throws IllegalStateException",
        "long word(int) throws IndexOutOfBoundsException"
    };

    public static void main(String[] args) {
        theClass();
        theConstructor();
        theMethods();
        nothingElse();
        classesInside();
        finish();
    }

    private static void holds(String what, boolean does) {
        check(what, does ? "yes" : "no", "yes");
    }

    private static void theClass() {
        int modifiers = SsaForge.class.getModifiers();
        holds("public and final", Modifier.isPublic(modifiers) && Modifier.isFinal(modifiers));
        check("without a package", SsaForge.class.getName(), "SsaForge");
        check("of no other class", SsaForge.class.getSuperclass().getName(), "java.lang.Object");
        due("of no interface", 0, () -> SsaForge.class.getInterfaces().length);
    }

    private static void theConstructor() {
        Constructor<?>[] all = SsaForge.class.getDeclaredConstructors();
        due("one constructor", 1, () -> all.length);
        holds("public", Modifier.isPublic(all[0].getModifiers()));
        due("of no parameters", 0, () -> all[0].getParameterCount());
        due("of no exceptions", 0, () -> all[0].getExceptionTypes().length);
    }

    private static void theMethods() {
        Set<String> got = new TreeSet<>();
        for (Method method : SsaForge.class.getDeclaredMethods()) {
            if (!Modifier.isPrivate(method.getModifiers())) {
                got.add(headOf(method));
                holds(method.getName() + " is public and of an object", method.getModifiers() == Modifier.PUBLIC);
            }
        }
        check("the methods that can be seen", String.join("\n", got), String.join("\n", new TreeSet<>(Arrays.asList(FACE))));
    }

    private static String headOf(Method method) {
        String head = method.getReturnType().getSimpleName() + " " + method.getName() + "(" + names(method.getParameterTypes()) + ")";
        String thrown = names(method.getExceptionTypes());
        return thrown.isEmpty() ? head : head + " throws " + thrown;
    }

    private static String names(Class<?>[] types) {
        return Arrays.stream(types).map(Class::getSimpleName).collect(Collectors.joining(", "));
    }

    private static void nothingElse() {
        for (Method method : SsaForge.class.getDeclaredMethods()) {
            if (Modifier.isPrivate(method.getModifiers())) {
                hasItsOwnName(method);
            }
        }
        for (Field field : SsaForge.class.getDeclaredFields()) {
            holds(field.getName() + " is private", Modifier.isPrivate(field.getModifiers()));
            staticOnesAreFinal(field);
        }
    }

    private static void classesInside() {
        for (Class<?> inside : SsaForge.class.getDeclaredClasses()) {
            int modifiers = inside.getModifiers();
            holds(inside.getName() + " can't be seen", !Modifier.isPublic(modifiers) && !Modifier.isProtected(modifiers));
            holds(inside.getName() + " is static", Modifier.isStatic(modifiers));
            for (Method method : inside.getDeclaredMethods()) {
                hasItsOwnName(method);
            }
            for (Field field : inside.getDeclaredFields()) {
                staticOnesAreFinal(field);
            }
        }
    }

    private static void hasItsOwnName(Method method) {
        boolean taken = Arrays.stream(FACE).anyMatch(head -> head.contains(" " + method.getName() + "("));
        holds(method.getName() + " has a name of its own", !taken);
    }

    private static void staticOnesAreFinal(Field field) {
        int modifiers = field.getModifiers();
        holds(field.getName() + " is final if it is static", !Modifier.isStatic(modifiers) || Modifier.isFinal(modifiers));
    }
}
