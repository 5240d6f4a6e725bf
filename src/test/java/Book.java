import java.io.IOException;
import java.nio.file.Files;
import java.nio.file.Path;
import java.util.LinkedHashMap;
import java.util.Map;

/**
 * The document, sentence by sentence: each test quotes the words that it holds the class to. At the
 * end every quote must stand in the document, and every word of the terms and promises in a quote,
 * so that no sentence is without a test of its own.
 */
final class Book {
    private final Map<String, String> sections = new LinkedHashMap<>();
    private final Map<String, boolean[]> quoted = new LinkedHashMap<>();
    private final Check check = new Check("boundaries");
    private String section = "";
    private String quote = "";
    private int sentences = 0;

    Book(Path document) throws IOException {
        if (!Files.exists(document)) {
            System.out.println("boundaries: " + document + " is not there, so quotes are not compared with it");
            return;
        }
        for (String part : Files.readString(document).split("(?m)^## ")) {
            int end = part.indexOf('\n');
            if (end > 0) {
                add(part.substring(0, end).replaceAll(":.*", ""), part.substring(end));
            }
        }
    }

    private void add(String name, String text) {
        String plain = text.replaceAll("(?m)^```.*$", " ")
            .replaceAll("(?m)^Ahead of the calls [^:]*: ---- [123] .*$", " ")
            .replaceAll("(?m)^Ahead of the calls [^:]*: ---- 4 ", " ")
            .replaceAll("(?m)^==== \\d ", " ")
            .replaceAll("(?m)^`[^`]*`: ", " ")
            .replaceAll("\\s+", " ");
        sections.put(name, plain);
        quoted.put(name, new boolean[plain.length()]);
    }

    void at(String name) {
        section = name;
        if (!sections.isEmpty()) {
            check.holds("the document has a section '" + name + "'", sections.containsKey(name));
        }
    }

    /** One sentence and its test, which must ask for something. */
    void says(String words, Runnable test) {
        quote = words;
        sentences++;
        mark(words);
        int before = check.asked();
        test.run();
        if (check.asked() == before) {
            check.holds(label("no test"), false);
        }
    }

    private void mark(String words) {
        String text = sections.get(section);
        if (text == null) {
            return;
        }
        int at = text.indexOf(words);
        check.holds(label("stands in the document"), at >= 0);
        while (at >= 0) {
            java.util.Arrays.fill(quoted.get(section), at, at + words.length(), true);
            at = text.indexOf(words, at + 1);
        }
    }

    private String label(String call) {
        return section + ", \"" + quote + "\": " + call;
    }

    void due(String call, long got, long want) {
        check.due(label(call), got, want);
    }

    void holds(String what, boolean holds) {
        check.holds(label(what), holds);
    }

    /** No word of the terms and promises is without a test. */
    private void allIsQuoted() {
        for (Map.Entry<String, String> entry : sections.entrySet()) {
            if (entry.getKey().equals("Terms") || entry.getKey().startsWith("Promise")) {
                String left = unquoted(entry.getValue(), quoted.get(entry.getKey()));
                check.holds(entry.getKey() + ": words without a test: " + left, left.isBlank());
            }
        }
    }

    private static String unquoted(String text, boolean[] marks) {
        StringBuilder left = new StringBuilder();
        for (int i = 0; i < text.length(); i++) {
            boolean counts = Character.isLetterOrDigit(text.charAt(i)) && !marks[i];
            left.append(counts ? text.charAt(i) : ' ');
        }
        return left.toString().replaceAll("\\s+", " ");
    }

    void close() {
        allIsQuoted();
        System.out.println("boundaries: " + sentences + " sentences of the document");
        check.end();
    }
}
