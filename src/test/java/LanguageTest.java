import java.nio.file.Files;
import java.nio.file.Path;
import java.util.List;

/** What of LANGUAGE.md can be seen from the program's text alone. */
final class LanguageTest {
    private static final String[] RULED_OUT = {
        "throw", "throws", "try", "catch", "synchronized", "assert", "instanceof", "equals", "hashCode", "toString",
        "package", "protected", "volatile", "native", "this::", "->", "::", "java.io", "java.time", "Random",
        "System.nanoTime", "System.currentTimeMillis", "addExact", "multiplyExact", "toIntExact"};

    private LanguageTest() {
    }

    static void run() throws Exception {
        List<String> lines = Files.readAllLines(Path.of("src/main/java/HiddenWorks.java"));
        int openedAt = -1, imports = 0;
        for (int i = 0; i < lines.size(); i++) {
            String line = lines.get(i), code = withoutComment(line);
            for (String word : RULED_OUT) {
                Check.due("line " + (i + 1) + " has " + word, !hasWord(code, word));
            }
            if (code.startsWith("import ")) {
                imports++;
                Check.due(code, code.equals("import java.util.Arrays;"));
            }
            if (line.matches(" {4,8}[a-zA-Z].*\\) \\{")) {
                openedAt = i;
            }
            if (line.matches(" {4,8}\\}") && openedAt >= 0 && indent(line) == indent(lines.get(openedAt))) {
                Check.due("lines of the method at " + (openedAt + 1), i - openedAt <= 60);
                openedAt = -1;
            }
        }
        Check.due("imports", imports, 1);
        rowsAreMadeOnce(lines);
    }

    /** Rule 12: what a call made would be counted; so rows are made in constructors and fields alone. */
    private static void rowsAreMadeOnce(List<String> lines) {
        boolean inConstructor = false;
        for (String line : lines) {
            if (line.equals("    public HiddenWorks() {")) {
                inConstructor = true;
            } else if (line.equals("    }")) {
                inConstructor = false;
            }
            boolean field = line.startsWith("        ") && line.contains("final int[]") || line.contains("private final");
            Check.due(line + " makes nothing", inConstructor || field || !line.contains("new "));
        }
    }

    private static String withoutComment(String line) {
        String code = line.strip();
        if (code.startsWith("/**") || code.startsWith("*") || code.startsWith("//")) {
            return "";
        }
        int at = code.indexOf("//");
        return at < 0 ? code : code.substring(0, at);
    }

    private static boolean hasWord(String code, String word) {
        for (int at = code.indexOf(word); at >= 0; at = code.indexOf(word, at + 1)) {
            boolean starts = at == 0 || !Character.isJavaIdentifierPart(code.charAt(at - 1));
            int end = at + word.length();
            boolean ends = end >= code.length() || !Character.isJavaIdentifierPart(code.charAt(end));
            if (starts && ends || !Character.isLetter(word.charAt(0))) {
                return true;
            }
        }
        return false;
    }

    private static int indent(String line) {
        return line.length() - line.stripLeading().length();
    }
}
