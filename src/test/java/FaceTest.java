import java.lang.reflect.Constructor;
import java.lang.reflect.Field;
import java.lang.reflect.Method;
import java.lang.reflect.Modifier;
import java.util.Arrays;
import java.util.Set;
import java.util.TreeSet;
import java.util.stream.Collectors;

/** The public face of the document, and rules 1 and 5 of LANGUAGE.md about what stands beside it. */
public final class FaceTest {
    private static final Checks CHECKS = new Checks();
    private static final String INDEX = " throws IndexOutOfBoundsException";
    private static final String ARGUMENT = " throws IllegalArgumentException";
    private static final String MISSING = " throws NoSuchElementException";
    private static final String[] FACE = {
        "void setTemperature(int,int,int)" + INDEX + ",IllegalArgumentException",
        "int temperature(int)" + INDEX,
        "int maturity(int,int)" + INDEX,
        "int strength(int)" + ARGUMENT,
        "int setPanels(int)" + ARGUMENT,
        "int setRates(int,int)" + ARGUMENT,
        "void setCrew(int,int)" + ARGUMENT,
        "int plan(int,int,int,int)" + ARGUMENT + ",IllegalStateException",
        "int move(int,int)" + MISSING + ",IllegalArgumentException",
        "int cancel(int)" + MISSING,
        "int delay(int,int,int)" + MISSING + ",IllegalArgumentException,IllegalStateException",
        "int pours()",
        "int endOf(int)" + MISSING,
        "int coldJoints(int)" + MISSING,
        "int struck(int)" + MISSING,
        "int freeFrom(int)" + MISSING,
        "int need(int)" + INDEX,
        "int peak()",
        "int peakByOverlaps()",
        "int firstShort()",
        "int earliest(int,int,int,int)" + ARGUMENT,
        "int panelsOf(int)" + MISSING,
        "int pourOf(int,int)" + INDEX,
    };

    private FaceTest() {
    }

    public static void main(String[] args) {
        Class<FormworkYard> yard = FormworkYard.class;
        CHECKS.due("public and final", yard.getModifiers(), Modifier.PUBLIC | Modifier.FINAL);
        methods(yard);
        constructors(yard);
        fields(yard);
        for (Class<?> inside : yard.getDeclaredClasses()) {
            CHECKS.due("a static class inside", inside.getModifiers() & Modifier.STATIC, Modifier.STATIC);
            CHECKS.due("no public class inside", inside.getModifiers() & Modifier.PUBLIC, 0);
            noPublicNames(inside);
        }
        CHECKS.end("FaceTest");
    }

    private static void methods(Class<?> yard) {
        Set<String> got = new TreeSet<>();
        for (Method method : yard.getDeclaredMethods()) {
            if (!Modifier.isPrivate(method.getModifiers())) {
                got.add(words(method));
                CHECKS.due(method + " is public alone", method.getModifiers(), Modifier.PUBLIC);
            }
        }
        CHECKS.same("the face", got.toString(), new TreeSet<>(Arrays.asList(FACE)).toString());
        noPublicNames(yard);
    }

    private static String words(Method method) {
        String thrown = names(method.getExceptionTypes());
        return method.getReturnType().getSimpleName() + " " + method.getName()
                + "(" + names(method.getParameterTypes()) + ")"
                + (thrown.isEmpty() ? "" : " throws " + thrown);
    }

    private static String names(Class<?>[] types) {
        return Arrays.stream(types).map(Class::getSimpleName).collect(Collectors.joining(","));
    }

    private static void noPublicNames(Class<?> type) {
        Set<String> names = new TreeSet<>();
        for (Method method : FormworkYard.class.getDeclaredMethods()) {
            if (Modifier.isPublic(method.getModifiers())) {
                names.add(method.getName());
            }
        }
        for (Method method : type.getDeclaredMethods()) {
            boolean bears = Modifier.isPrivate(method.getModifiers()) && names.contains(method.getName());
            CHECKS.due(method + " bears a public name", bears ? 1 : 0, 0);
        }
    }

    private static void constructors(Class<?> yard) {
        Constructor<?>[] all = yard.getDeclaredConstructors();
        CHECKS.due("constructors", all.length, 1);
        CHECKS.due("parameters of the constructor", all[0].getParameterCount(), 0);
        CHECKS.due("public constructor", all[0].getModifiers(), Modifier.PUBLIC);
    }

    private static void fields(Class<?> yard) {
        Set<String> open = new TreeSet<>();
        for (Field field : yard.getDeclaredFields()) {
            int modifiers = field.getModifiers();
            if (!Modifier.isPrivate(modifiers)) {
                open.add(Modifier.toString(modifiers) + " " + field.getType() + " " + field.getName());
            }
            if (Modifier.isStatic(modifiers)) {
                CHECKS.due(field + " is final", modifiers & Modifier.FINAL, Modifier.FINAL);
            }
        }
        CHECKS.same("the constants", open.toString(), "[public static final int NONE]");
        CHECKS.due("NONE", FormworkYard.NONE, -1);
    }
}
