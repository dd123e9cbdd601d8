import java.io.IOException;
import java.nio.file.Files;
import java.nio.file.Path;
import java.util.BitSet;
import java.util.LinkedHashMap;
import java.util.Map;

/** The document: a test says which of its words it is for, and in the end no words are left that none is for. */
final class Doc {
    private static final Path FILE = Path.of("../shared/DOC.md");
    private static final Map<String, String> SECTIONS = new LinkedHashMap<>();
    private static final Map<String, BitSet> CITED = new LinkedHashMap<>();

    private Doc() {
    }

    static void read() throws IOException {
        String text = Files.readString(FILE).replace("```text", " ").replace("```", " ").replaceAll("======== \\d ", " ");
        for (String section : text.split("\n## ")) {
            int end = section.indexOf('\n');
            String title = end < 0 ? section : section.substring(0, end);
            if (title.equals("Terms")) {
                keep("Terms", section.substring(end).replaceAll("Ahead of the calls [^\n]*", " "));
            } else if (title.startsWith("Promise ")) {
                int call = section.indexOf("`: ");
                keep(title.substring(0, title.indexOf(':')), section.substring(call + 3));
            }
        }
        Check.due("promises of the document", SECTIONS.size(), 35);
    }

    private static void keep(String place, String words) {
        SECTIONS.put(place, words.strip().replaceAll("\\s+", " "));
        CITED.put(place, new BitSet());
    }

    /** What comes now is for these words of the terms. */
    static void term(String words) {
        cite("Terms", words);
    }

    /** What comes now is for these words of a promise. */
    static void promise(int number, String words) {
        cite("Promise " + number, words);
    }

    private static void cite(String place, String words) {
        Check.under(place + ", '" + words + "'");
        String text = SECTIONS.getOrDefault(place, "");
        int at = text.indexOf(words);
        Check.due("the document says so", at >= 0);
        if (at >= 0) {
            CITED.get(place).set(at, at + words.length());
        }
    }

    /** No words of the terms and the promises are without a test. */
    static void allIsCited() {
        Check.under("the document");
        for (String place : SECTIONS.keySet()) {
            String text = SECTIONS.get(place);
            StringBuilder left = new StringBuilder();
            for (int i = 0; i < text.length(); i++) {
                left.append(CITED.get(place).get(i) ? ' ' : text.charAt(i));
            }
            String uncited = left.toString().replaceAll("[\\s.,;:()]+", " ").strip();
            Check.due(place + ", no test is for '" + uncited + "'", uncited.isEmpty());
        }
    }
}
