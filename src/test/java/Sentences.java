import java.io.IOException;
import java.nio.file.Files;
import java.nio.file.Path;
import java.util.LinkedHashSet;
import java.util.Set;

/** The sentences of the document's terms and promises, each with a test of its own. */
final class Sentences {
    private static final Set<String> HEADINGS =
            Set.of("Rates.", "Pours.", "Panels.", "Which panel.");

    private final Checks checks;
    private final Set<String> tested = new LinkedHashSet<>();
    private String section = "";

    Sentences(Checks checks) {
        this.checks = checks;
    }

    /** The sentences that follow stand in this section of the document. */
    void section(String heading) {
        section = heading;
    }

    void sentence(String words, Runnable test) {
        String name = section + ", " + words;
        checks.part(name);
        if (!tested.add(name)) {
            checks.report("is tested twice");
        }
        int before = checks.made();
        try {
            test.run();
        } catch (RuntimeException thrown) {
            checks.report("stopped by " + thrown);
        }
        if (checks.made() == before) {
            checks.report("nothing was checked");
        }
    }

    /** Looks that no sentence of the document is without a test, and no test without one. */
    void compareWith(Path document) throws IOException {
        Set<String> told = told(Files.readString(document));
        checks.part("The document");
        for (String name : told) {
            checks.due("tests of \"" + name + "\"", tested.contains(name) ? 1 : 0, 1);
        }
        for (String name : tested) {
            checks.due("places of \"" + name + "\"", told.contains(name) ? 1 : 0, 1);
        }
    }

    private static Set<String> told(String document) {
        Set<String> told = new LinkedHashSet<>();
        String heading = "";
        for (String line : document.split("\n")) {
            if (line.startsWith("## ")) {
                heading = line.substring(3).replaceFirst(":.*", "");
            } else if (heading.equals("Terms")) {
                addSentences(told, line);
            } else if (heading.startsWith("Promise ") && !line.isBlank()) {
                told.add(heading + ", " + line.replaceFirst("^`[^`]*`: ", ""));
            }
        }
        return told;
    }

    private static void addSentences(Set<String> told, String line) {
        // these tell what the terms are for and how the interface is ordered, and no case
        if (line.startsWith("The calls tell ") || line.startsWith("Ahead of the calls ")) {
            return;
        }
        for (String sentence : line.split("(?<=\\.) (?=[A-Z])")) {
            if (!sentence.isBlank() && !HEADINGS.contains(sentence)) {
                told.add("Terms, " + sentence);
            }
        }
    }
}
