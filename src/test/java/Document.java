import java.io.IOException;
import java.nio.file.Files;
import java.nio.file.Path;
import java.util.ArrayList;
import java.util.LinkedHashMap;
import java.util.List;
import java.util.Map;

/** ../shared/DOC.md by its sections, without blank lines; tests that read it run from the project's folder. */
final class Document {
    private final Map<String, List<String>> sections = new LinkedHashMap<>();

    Document() throws IOException {
        String heading = "";
        for (String line : Files.readAllLines(Path.of("../shared/DOC.md"))) {
            if (line.startsWith("## ")) {
                heading = line.substring(3).replaceFirst(":.*", "");
                sections.put(heading, new ArrayList<>());
            } else if (!line.isBlank() && !heading.isEmpty()) {
                sections.get(heading).add(line);
            }
        }
    }

    /** The sections' headings, those of promises without the title behind the number. */
    Iterable<String> headings() {
        return sections.keySet();
    }

    List<String> lines(String heading) {
        return sections.getOrDefault(heading, List.of());
    }

    /** What stands between the braces of the public face: the constants, the constructor, the calls. */
    List<String> face() {
        List<String> face = new ArrayList<>();
        for (String line : lines("The public face")) {
            if (line.startsWith("    ")) {
                face.add(line.trim());
            }
        }
        return face;
    }

    /** The signature with which a promise begins, without the text behind it. */
    String signature(int promise) {
        List<String> lines = lines("Promise " + promise);
        return lines.isEmpty() ? "" : lines.get(0).replaceFirst("^`([^`]*)`: .*", "$1");
    }
}
