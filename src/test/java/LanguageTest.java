import java.io.IOException;
import java.nio.file.Files;
import java.nio.file.Path;
import java.util.List;

/** Words that LANGUAGE.md keeps out of the program; run from the project's folder. */
public final class LanguageTest {
    private static final Checks CHECKS = new Checks();
    private static final List<String> IMPORTS =
            List.of("import java.util.Arrays;", "import java.util.NoSuchElementException;");
    private static final String[] KEPT_OUT = {
        "package ", "->", "::", "synchronized", "assert", "finally", "Exact(", "static {",
        "extends RuntimeException", "extends Exception", "System.nano", "System.current", "Random",
        "Thread", "java.io", "java.nio", "java.net", "hashCode", "toString(", "protected ",
        "ArrayIndexOutOfBounds", "NullPointer", "ClassCast", "NegativeArraySize", "ArrayStore",
        "catch (ArithmeticException", "catch (RuntimeException", "catch (Exception",
        "catch (Throwable", "catch (IndexOutOfBoundsException",
    };

    private LanguageTest() {
    }

    public static void main(String[] args) throws IOException {
        String source = Files.readString(Path.of("src/main/java/FormworkYard.java"));
        String code = source.replaceAll("(?s)/\\*.*?\\*/", " ").replaceAll("//[^\n]*", " ");
        for (String line : code.split("\n")) {
            if (line.startsWith("import ")) {
                CHECKS.due(line + " is one of those", IMPORTS.contains(line.trim()) ? 1 : 0, 1);
            }
        }
        for (String word : KEPT_OUT) {
            CHECKS.due("times of '" + word + "'", times(code, word), 0);
        }
        CHECKS.end("LanguageTest");
    }

    private static int times(String code, String word) {
        int count = 0;
        for (int at = code.indexOf(word); at >= 0; at = code.indexOf(word, at + 1)) {
            count++;
        }
        return count;
    }
}
