import java.nio.file.Files;
import java.nio.file.Path;
import java.util.ArrayList;
import java.util.LinkedHashMap;
import java.util.List;
import java.util.Map;

/**
 * Ties a test to the words of the document that it holds to: a wrong answer is printed with them, and
 * at the end there must be none of the document's words that no test has named.
 */
final class Edge {
    private static final Path DOCUMENT = Path.of("../shared/DOC.md");

    private record Quote(String where, String words) { }

    private static final List<Quote> QUOTES = new ArrayList<>();
    private static int answersAhead = 0;

    private Edge() { }

    /** Begins the test of some words of a part: "What it is", "Terms", "Terms 1" .., "Promise 1" ... */
    static void of(String where, String words) {
        close();
        QUOTES.add(new Quote(where, words));
        Due.under(where + ", \"" + words + "\": ");
    }

    private static void close() {
        if (!QUOTES.isEmpty() && Due.answers() == answersAhead) {
            Due.wrong("nothing is tested");
        }
        answersAhead = Due.answers();
    }

    static void end() throws Exception {
        close();
        Due.under("");
        System.out.println(QUOTES.size() + " sentences of the document, or parts of them, have a test");
        if (Files.exists(DOCUMENT)) {
            compareWithDocument();
        } else {
            System.out.println("there is no " + DOCUMENT + ": what the tests name is not compared with it");
        }
        Due.end();
    }

    private static void compareWithDocument() throws Exception {
        Map<String, String> parts = parts(Files.readAllLines(DOCUMENT));
        Map<String, boolean[]> named = new LinkedHashMap<>();
        parts.forEach((where, text) -> named.put(where, new boolean[text.length()]));
        for (Quote q : QUOTES) {
            String text = parts.getOrDefault(q.where, "");
            int at = firstUnnamed(text, q.words, named.get(q.where));
            Due.is("the document says under " + q.where + ": " + q.words, 1, at >= 0 ? 1 : 0);
            for (int i = 0; at >= 0 && i < q.words.length(); i++) {
                named.get(q.where)[at + i] = true;
            }
        }
        parts.forEach((where, text) -> {
            StringBuilder left = new StringBuilder();
            for (int i = 0; i < text.length(); i++) {
                left.append(named.get(where)[i] ? ' ' : text.charAt(i));
            }
            String words = left.toString().replaceAll("[\\s.,:;()]+", " ").trim();
            Due.same("what no test names of " + where, "", words);
        });
    }

    /** Where words come several times, each test that names them has its own. */
    private static int firstUnnamed(String text, String words, boolean[] named) {
        int at = text.indexOf(words);
        int found = at;
        while (at >= 0) {
            if (!named[at]) {
                return at;
            }
            at = text.indexOf(words, at + 1);
        }
        return found;
    }

    private static Map<String, String> parts(List<String> lines) {
        Map<String, String> parts = new LinkedHashMap<>();
        String where = "";
        for (String line : lines) {
            String text = line.trim();
            if (text.startsWith("## ")) {
                where = text.substring(3).replaceAll(":.*", "");
            } else if (text.startsWith("======== ")) {
                where = "Terms " + text.charAt(9);
                text = text.substring(10).trim();
            }
            boolean told = where.equals("What it is") && text.startsWith("An object")
                    || where.startsWith("Terms") && !text.startsWith("Ahead of the calls")
                    || where.startsWith("Promise ");
            if (told && !text.startsWith("#") && !text.startsWith("```") && !text.isEmpty()) {
                parts.merge(where, text.replaceFirst("^`[^`]*`: ", ""), (a, b) -> a + " " + b);
            }
        }
        return parts;
    }
}
