import java.io.IOException;
import java.io.UncheckedIOException;
import java.nio.file.Files;
import java.nio.file.Path;
import java.util.ArrayList;
import java.util.LinkedHashMap;
import java.util.List;
import java.util.Map;
import java.util.regex.Matcher;
import java.util.regex.Pattern;

/** The sentences of ../shared/DOC.md: which of them the rows at hand test, and which of them no test has named. */
final class Sentences {
    private static final Path DOCUMENT = Path.of("../shared/DOC.md");
    /** By "Terms 0" .. "Terms 5" and "Promise 1" .. "Promise 51". */
    private static final Map<String, String> SECTIONS = sections();
    private static final Map<String, boolean[]> NAMED = new LinkedHashMap<>();

    private static String now = "";

    private Sentences() {
    }

    static void terms(int part, String sentence) {
        name("Terms " + part, sentence);
    }

    static void promise(int number, String sentence) {
        name("Promise " + number, sentence);
    }

    /** The sentence that is tested now, for the row of a wrong answer. */
    static String now() {
        return now;
    }

    private static void name(String section, String sentence) {
        String all = SECTIONS.getOrDefault(section, "");
        String sought = sentence.replaceAll("\\s+", " ").strip();
        int from = all.indexOf(sought);
        Due.is(section + " says '" + sought + "'", from >= 0 ? 1 : 0, 1);
        boolean[] named = NAMED.computeIfAbsent(section, key -> new boolean[all.length()]);
        for (int i = from; i >= 0 && i < from + sought.length(); i++) {
            named[i] = true;
        }
        now = section + ", '" + (sought.length() > 60 ? sought.substring(0, 60) + ".." : sought) + "': ";
    }

    /** What of the document no test has named. */
    static List<String> unnamed() {
        List<String> rows = new ArrayList<>();
        for (Map.Entry<String, String> section : SECTIONS.entrySet()) {
            String all = section.getValue();
            boolean[] named = NAMED.getOrDefault(section.getKey(), new boolean[all.length()]);
            StringBuilder rest = new StringBuilder();
            for (int i = 0; i < all.length(); i++) {
                rest.append(named[i] ? '\n' : all.charAt(i));
            }
            for (String piece : rest.toString().split("\n")) {
                if (piece.matches(".*\\w.*")) {
                    rows.add(section.getKey() + ": " + piece.strip());
                }
            }
        }
        return rows;
    }

    private static Map<String, String> sections() {
        String document;
        try {
            document = Files.readString(DOCUMENT);
        } catch (IOException thrown) {
            throw new UncheckedIOException(thrown);
        }
        Map<String, String> all = new LinkedHashMap<>();
        String terms = document.substring(document.indexOf("## Terms") + 8, document.indexOf("Ahead of the calls"));
        String[] parts = terms.replace("```text", " ").replace("```", " ").split("======== \\d ");
        for (int i = 0; i < parts.length; i++) {
            all.put("Terms " + i, parts[i].replaceAll("\\s+", " ").strip());
        }
        Matcher promise = Pattern.compile("(?s)## (Promise \\d+):[^\n]*\n+`[^`]*`: (.*?)(?=\n## )").matcher(document);
        while (promise.find()) {
            all.put(promise.group(1), promise.group(2).replaceAll("\\s+", " ").strip());
        }
        return all;
    }
}
