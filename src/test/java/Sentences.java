import java.io.IOException;
import java.nio.file.Files;
import java.nio.file.Path;
import java.util.Map;
import java.util.TreeMap;

/**
 * Ties tests to the sentences of the document. Each quote must stand in the section that it is said
 * to be from, and at the end no word of a section may be left that no quote has told, so that a
 * sentence without a test cannot be overlooked.
 */
final class Sentences {
    static final int WHAT_IT_IS = -1;
    static final int DESCRIPTION = 0;
    private static final int PROMISES = 36;
    private static final Path DOCUMENT = Path.of("..", "shared", "DOC.md");

    private final Map<Integer, String> sections = new TreeMap<>();
    private final Map<Integer, boolean[]> told = new TreeMap<>();
    private int tests = 0;

    Sentences() throws IOException {
        if (!Files.exists(DOCUMENT)) {
            System.out.println(DOCUMENT + " was not found: the quotes were not compared with it");
            return;
        }
        String document = Files.readString(DOCUMENT);
        keep(WHAT_IT_IS, between(document, "\n## What it is\n", "\n## "));
        keep(DESCRIPTION, between(document, "\n## Description\n", "\n## "));
        for (int promise = 1; promise <= PROMISES; promise++) {
            String section = between(document, "\n## Promise " + promise + ":", "\n## ");
            // The heading's name and the signature are compared by FaceTest.
            int signature = section.indexOf('`');
            keep(promise, section.substring(section.indexOf('`', signature + 1) + 1));
        }
    }

    /** A sentence that names a boundary case, and the test of its own. */
    void test(int section, String quote, Runnable test) {
        tell(section, quote);
        tests++;
        Check.about(name(section) + ", \"" + quote + "\"");
        try {
            test.run();
        } catch (RuntimeException e) {
            Check.due("the test", e.toString(), "no exception");
        }
        Check.about("");
    }

    /** A sentence that names no boundary case. */
    void plain(int section, String quote) {
        tell(section, quote);
    }

    void end() {
        for (Map.Entry<Integer, String> section : sections.entrySet()) {
            Check.due(name(section.getKey()) + ": words without a test",
                    untold(section.getValue(), told.get(section.getKey())), "");
        }
        System.out.println(tests + " sentences with a test of their own");
    }

    private void tell(int section, String quote) {
        String text = sections.get(section);
        if (text == null) {
            return;
        }
        int from = text.indexOf(quote);
        Check.due(name(section) + ": is in the document: " + quote, from >= 0 ? 1 : 0, 1);
        for (; from >= 0; from = text.indexOf(quote, from + 1)) {
            for (int k = from; k < from + quote.length(); k++) {
                told.get(section)[k] = true;
            }
        }
    }

    private void keep(int section, String text) {
        String flat = text.replace("`", "").replaceAll("\\s+", " ");
        sections.put(section, flat);
        told.put(section, new boolean[flat.length()]);
    }

    private static String untold(String text, boolean[] told) {
        StringBuilder rest = new StringBuilder();
        for (int k = 0; k < text.length(); k++) {
            rest.append(told[k] ? ' ' : text.charAt(k));
        }
        // The numbers of the parts of a tick and the signs of lists are no sentences.
        return rest.toString().replaceAll("(^| )[1-7]\\.(?= |$)", " ").replaceAll("[^A-Za-z0-9]+", " ").trim();
    }

    private static String between(String text, String start, String end) {
        int from = text.indexOf(start) + start.length();
        int to = text.indexOf(end, from);
        return text.substring(from, to < 0 ? text.length() : to);
    }

    private static String name(int section) {
        if (section == WHAT_IT_IS) {
            return "What it is";
        }
        return section == DESCRIPTION ? "Description" : "Promise " + section;
    }
}
