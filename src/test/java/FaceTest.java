import java.io.IOException;
import java.lang.reflect.Constructor;
import java.lang.reflect.Field;
import java.lang.reflect.Method;
import java.lang.reflect.Modifier;
import java.util.Arrays;
import java.util.List;
import java.util.Set;
import java.util.TreeSet;
import java.util.stream.Collectors;

/** The public face of the document, and rules 1 and 5 of LANGUAGE.md about what stands beside it. */
public final class FaceTest {
    private static final Checks CHECKS = new Checks();
    private static final Class<FormworkYard> YARD = FormworkYard.class;
    private static final int PROMISES = 24;

    private FaceTest() {
    }

    public static void main(String[] args) throws IllegalAccessException, IOException {
        Document document = new Document();
        Set<String> due = new TreeSet<>();
        for (String line : document.face()) {
            due.add(withTypesAlone(line));
        }
        CHECKS.due("lines of the face", due.size(), 1 + PROMISES);
        CHECKS.same("the face", String.join("\n", face()), String.join("\n", due));
        CHECKS.same("the class", document.lines("The public face").get(1),
                Modifier.toString(YARD.getModifiers()) + " class " + YARD.getName() + " {");
        signatures(document);
        staticFields();
        noPublicNames(YARD);
        for (Class<?> inside : YARD.getDeclaredClasses()) {
            CHECKS.due("a static class inside", inside.getModifiers() & Modifier.STATIC, Modifier.STATIC);
            CHECKS.due("no public class inside", inside.getModifiers() & Modifier.PUBLIC, 0);
            noPublicNames(inside);
        }
        CHECKS.end("FaceTest");
    }

    /** Whoever calls sees no names of parameters, and the class may import what it throws. */
    private static String withTypesAlone(String line) {
        return line.replace("java.util.", "").replaceAll("\\bint \\w+(?=[,)])", "int");
    }

    /** All of the class that is not private. */
    private static Set<String> face() throws IllegalAccessException {
        Set<String> face = new TreeSet<>();
        for (Field field : YARD.getDeclaredFields()) {
            if (!Modifier.isPrivate(field.getModifiers())) {
                face.add(Modifier.toString(field.getModifiers()) + " " + field.getType() + " "
                        + field.getName() + " = " + field.get(null) + ";");
            }
        }
        for (Constructor<?> made : YARD.getDeclaredConstructors()) {
            face.add(Modifier.toString(made.getModifiers()) + " " + YARD.getName()
                    + "(" + names(made.getParameterTypes()) + ");");
        }
        for (Method method : YARD.getDeclaredMethods()) {
            if (!Modifier.isPrivate(method.getModifiers())) {
                String thrown = names(method.getExceptionTypes());
                face.add(Modifier.toString(method.getModifiers()) + " " + method.getReturnType() + " "
                        + method.getName() + "(" + names(method.getParameterTypes()) + ")"
                        + (thrown.isEmpty() ? "" : " throws " + thrown) + ";");
            }
        }
        return face;
    }

    private static String names(Class<?>[] types) {
        return Arrays.stream(types).map(Class::getSimpleName).collect(Collectors.joining(", "));
    }

    /** Behind the constant, the face has a line for each promise, in their order. */
    private static void signatures(Document document) {
        List<String> face = document.face();
        for (int promise = 1; promise <= PROMISES && promise < face.size(); promise++) {
            CHECKS.same("promise " + promise, "public " + document.signature(promise) + ";",
                    face.get(promise));
        }
    }

    private static void staticFields() {
        for (Field field : YARD.getDeclaredFields()) {
            if (Modifier.isStatic(field.getModifiers())) {
                CHECKS.due(field + " is final", field.getModifiers() & Modifier.FINAL, Modifier.FINAL);
            }
        }
    }

    private static void noPublicNames(Class<?> type) {
        Set<String> names = new TreeSet<>();
        for (Method method : YARD.getDeclaredMethods()) {
            if (Modifier.isPublic(method.getModifiers())) {
                names.add(method.getName());
            }
        }
        for (Method method : type.getDeclaredMethods()) {
            boolean bears = Modifier.isPrivate(method.getModifiers()) && names.contains(method.getName());
            CHECKS.due(method + " bears a public name", bears ? 1 : 0, 0);
        }
    }
}
