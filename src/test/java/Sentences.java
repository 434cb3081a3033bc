import java.io.IOException;
import java.io.UncheckedIOException;
import java.nio.file.Files;
import java.nio.file.Path;
import java.util.ArrayList;
import java.util.LinkedHashMap;
import java.util.List;
import java.util.Map;
import java.util.regex.Matcher;
import java.util.regex.Pattern;

/** The sentences of ../shared/DOC.md: which of them the rows at hand test, and which of them no test has named. */
final class Sentences {
    private static final Path DOCUMENT = Path.of("../shared/DOC.md");
    /**
     * By "What it is", "The public face", "Terms 0" .. "Terms 5", "Ahead of the calls", "Promise 1" .. "Promise 51" (what is
     * promised), "Head 1" .. "Head 51" (a promise's name and its call) and "Not promised".
     */
    private static final Map<String, String> SECTIONS = sections();
    private static final Map<String, boolean[]> NAMED = new LinkedHashMap<>();

    private static String now = "";

    private Sentences() {
    }

    static void terms(int part, String sentence) {
        name("Terms " + part, sentence);
    }

    static void promise(int number, String sentence) {
        name("Promise " + number, sentence);
    }

    /** Of what stands around 'Terms' and the promises. */
    static void frame(String section, String sentence) {
        name(section, sentence);
    }

    /** A section as it stands, its white space folded. */
    static String section(String section) {
        return SECTIONS.getOrDefault(section, "");
    }

    /** The sentence that is tested now, for the row of a wrong answer. */
    static String now() {
        return now;
    }

    private static void name(String section, String sentence) {
        String all = SECTIONS.getOrDefault(section, "");
        String sought = folded(sentence);
        int from = all.indexOf(sought);
        Due.is(section + " says '" + sought + "'", from >= 0 ? 1 : 0, 1);
        boolean[] named = NAMED.computeIfAbsent(section, key -> new boolean[all.length()]);
        for (int i = from; i >= 0 && i < from + sought.length(); i++) {
            named[i] = true;
        }
        now = section + ", '" + (sought.length() > 60 ? sought.substring(0, 60) + ".." : sought) + "': ";
    }

    /** What of the document no test has named. */
    static List<String> unnamed() {
        List<String> rows = new ArrayList<>();
        for (Map.Entry<String, String> section : SECTIONS.entrySet()) {
            String all = section.getValue();
            boolean[] named = NAMED.getOrDefault(section.getKey(), new boolean[all.length()]);
            StringBuilder rest = new StringBuilder();
            for (int i = 0; i < all.length(); i++) {
                rest.append(named[i] ? '\n' : all.charAt(i));
            }
            for (String piece : rest.toString().split("\n")) {
                if (piece.matches(".*\\w.*")) {
                    rows.add(section.getKey() + ": " + piece.strip());
                }
            }
        }
        return rows;
    }

    private static String folded(String text) {
        return text.replaceAll("\\s+", " ").strip();
    }

    private static String read() {
        try {
            return Files.readString(DOCUMENT);
        } catch (IOException thrown) {
            throw new UncheckedIOException(thrown);
        }
    }

    private static String between(String document, String from, String until) {
        int start = document.indexOf(from) + from.length();
        return document.substring(start, until.isEmpty() ? document.length() : document.indexOf(until, start));
    }

    private static Map<String, String> sections() {
        String document = read();
        Map<String, String> all = new LinkedHashMap<>();
        all.put("What it is", folded(between(document, "## What it is\n", "## The public face\n")));
        all.put("The public face", folded(between(document, "## The public face\n", "## Terms\n").replace("```java", " ").replace("```", " ")));
        String[] parts = between(document, "## Terms\n", "Ahead of the calls").replace("```text", " ").replace("```", " ").split("======== \\d ");
        for (int i = 0; i < parts.length; i++) {
            all.put("Terms " + i, folded(parts[i]));
        }
        all.put("Ahead of the calls", folded("Ahead of the calls" + between(document, "Ahead of the calls", "## Promise 1:")));
        Matcher promise = Pattern.compile("(?s)## Promise (\\d+): ([^\n]*)\n+`([^`]*)`: (.*?)(?=\n## )").matcher(document);
        while (promise.find()) {
            all.put("Head " + promise.group(1), folded(promise.group(2) + ": " + promise.group(3)));
            all.put("Promise " + promise.group(1), folded(promise.group(4)));
        }
        all.put("Not promised", folded(between(document, "## Not promised\n", "")));
        return all;
    }
}
