import java.util.LinkedHashSet;
import java.util.Set;

/** The sentences of the document, each with a test of its own; its public face is FaceTest's. */
final class Sentences {
    private static final Set<String> HEADINGS =
            Set.of("Rates.", "Pours.", "Panels.", "Which panel.");

    private final Checks checks;
    private final Set<String> known = new LinkedHashSet<>();
    private String section = "";

    Sentences(Checks checks) {
        this.checks = checks;
    }

    /** The sentences that follow stand in this section of the document. */
    void section(String heading) {
        section = heading;
    }

    void sentence(String words, Runnable test) {
        add(words);
        int before = checks.made();
        try {
            test.run();
        } catch (RuntimeException thrown) {
            checks.report("stopped by " + thrown);
        }
        if (checks.made() == before) {
            checks.report("nothing was checked");
        }
    }

    /** A sentence that leaves something free, so that no answer can break it. */
    void freedom(String words) {
        add(words);
    }

    private void add(String words) {
        String name = section + ", " + words;
        checks.part(name);
        if (!known.add(name)) {
            checks.report("stands twice");
        }
    }

    /** Looks that no sentence of the document is without a test, and no test without one. */
    void compareWith(Document document) {
        Set<String> told = told(document);
        checks.part("The document");
        for (String name : told) {
            checks.due("tests of \"" + name + "\"", known.contains(name) ? 1 : 0, 1);
        }
        for (String name : known) {
            checks.due("places of \"" + name + "\"", told.contains(name) ? 1 : 0, 1);
        }
    }

    private static Set<String> told(Document document) {
        Set<String> told = new LinkedHashSet<>();
        for (String heading : document.headings()) {
            if (heading.equals("The public face")) {
                continue;
            }
            for (String line : document.lines(heading)) {
                if (heading.startsWith("Promise ")) {
                    told.add(heading + ", " + line.replaceFirst("^`[^`]*`: ", ""));
                } else {
                    addSentences(told, heading, line);
                }
            }
        }
        return told;
    }

    private static void addSentences(Set<String> told, String heading, String line) {
        for (String sentence : line.split("(?<=\\.) (?=[A-Z])")) {
            if (!HEADINGS.contains(sentence)) {
                told.add(heading + ", " + sentence);
            }
        }
    }
}
