import java.io.IOException;
import java.nio.file.Files;
import java.nio.file.Path;
import java.util.ArrayList;
import java.util.List;

/**
 * The sentences of the document that name a boundary, each one with a test of its own. That each sentence stands in
 * the document, and that none of its ranges and "Throws" is left out, is looked up in the document itself.
 */
final class Edges {
    private static final class Edge {
        final String head;
        final String sentence;
        final Runnable test;

        Edge(String head, String sentence, Runnable test) {
            this.head = head;
            this.sentence = sentence;
            this.test = test;
        }

        String name() {
            return head + ": " + sentence;
        }
    }

    private final Check check;
    private final List<Edge> all = new ArrayList<>();

    Edges(Check check) {
        this.check = check;
    }

    /** The head is that of a promise, such as "Promise 2", or that of one of the terms. */
    void of(String head, String sentence, Runnable test) {
        all.add(new Edge(head, sentence, test));
    }

    List<String> names() {
        List<String> names = new ArrayList<>();
        for (Edge edge : all) {
            names.add(edge.name());
        }
        return names;
    }

    /** Runs every test, and answers the names of those that found a fault. */
    List<String> run() {
        List<String> broken = new ArrayList<>();
        for (Edge edge : all) {
            int before = check.faults();
            check.under(edge.name());
            try {
                edge.test.run();
            } catch (RuntimeException e) {
                check.fault("threw " + e);
            }
            if (check.faults() > before) {
                broken.add(edge.name());
            }
        }
        return broken;
    }

    // ---- beside the document

    void compareWith(Path document) throws IOException {
        check.under("beside the document");
        String text = Files.readString(document);
        for (Edge edge : all) {
            check.holds("the document says: " + edge.name(), plain(section(text, edge.head)).contains(plain(edge.sentence)));
        }
        for (int promise = 1; text.contains("## Promise " + promise + ":"); promise++) {
            String head = "Promise " + promise;
            check.holds("a sentence of " + head + " has a test", isTested(head, section(text, head)));
            for (String line : section(text, head).split("\n")) {
                boolean isRange = line.startsWith("- `") && line.matches(".*[0-9].*");
                if (isRange || line.startsWith("Throws ")) {
                    check.holds("a test for " + head + ": " + line, isTested(head, line));
                }
            }
        }
    }

    private boolean isTested(String head, String line) {
        for (Edge edge : all) {
            if (edge.head.equals(head) && line.contains(edge.sentence)) {
                return true;
            }
        }
        return false;
    }

    /** What stands between the head and the next one; terms are looked up in the whole document. */
    private static String section(String text, String head) {
        int start = text.indexOf("## " + head + ":");
        if (start < 0) {
            return text;
        }
        int end = text.indexOf("\n## ", start + 1);
        return end < 0 ? text.substring(start) : text.substring(start, end);
    }

    private static String plain(String text) {
        return text.replaceAll("\\s+", " ");
    }
}
