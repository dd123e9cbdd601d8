import java.io.IOException;
import java.lang.reflect.Method;
import java.lang.reflect.Modifier;
import java.net.URL;
import java.net.URLClassLoader;
import java.nio.file.Files;
import java.nio.file.Path;
import java.util.ArrayList;
import java.util.List;
import java.util.regex.Matcher;
import java.util.regex.Pattern;
import javax.tools.JavaCompiler;
import javax.tools.ToolProvider;

/** README.md tells nothing that isn't so: its lines are compiled and run, and it names every call. */
final class ReadmeTest {
    private static final Path README = Path.of("README.md"), MADE = Path.of("build/readme");
    private static final Pattern TOLD = Pattern.compile("(?:int (\\w+) = )?(x\\..*); +// (-?\\d+)\\b.*");

    private ReadmeTest() {
    }

    static void run() throws Exception {
        Check.under("README.md");
        String page = Files.readString(README);
        for (Method m : HiddenWorks.class.getDeclaredMethods()) {
            if (Modifier.isPublic(m.getModifiers())) {
                Check.due("README.md names " + m.getName(), page.contains("`" + m.getName() + "`"));
            }
        }
        linesAreSo(page);
    }

    private static void linesAreSo(String page) throws Exception {
        List<String> calls = new ArrayList<>();
        List<Long> due = new ArrayList<>();
        StringBuilder body = new StringBuilder();
        for (String line : block(page)) {
            Matcher told = TOLD.matcher(line);
            if (!told.matches()) {
                body.append(line).append('\n');
                continue;
            }
            String name = told.group(1), call = told.group(2);
            body.append(name == null ? "" : "int " + name + " = " + call + "; ");
            body.append("got.add((long) ").append(name == null ? call : name).append(");\n");
            calls.add(call);
            due.add(Long.valueOf(told.group(3)));
        }
        long[] got = answersOf(body.toString());
        Check.due("lines that tell an answer", got.length, calls.size());
        Check.due("there are some", calls.size() > 20);
        for (int i = 0; i < got.length && i < calls.size(); i++) {
            Check.due("README.md's " + calls.get(i), got[i], due.get(i));
        }
    }

    private static List<String> block(String page) {
        int start = page.indexOf("```java\n"), end = page.indexOf("\n```\n", Math.max(start, 0));
        Check.due("README.md has lines to try", start >= 0 && end > start);
        return start >= 0 && end > start ? page.substring(start + 8, end).lines().toList() : List.of();
    }

    private static long[] answersOf(String body) throws Exception {
        if (!isCompiled(body)) {
            return new long[0];
        }
        try (URLClassLoader loader = new URLClassLoader(new URL[] {MADE.toUri().toURL()})) {
            return (long[]) loader.loadClass("ReadmeLines").getMethod("answers").invoke(null);
        }
    }

    private static boolean isCompiled(String body) throws IOException {
        Files.createDirectories(MADE);
        Path file = MADE.resolve("ReadmeLines.java");
        Files.writeString(file, "import java.util.ArrayList;\nimport java.util.List;\n"
            + "public final class ReadmeLines {\npublic static long[] answers() {\nList<Long> got = new ArrayList<>();\n"
            + body + "return got.stream().mapToLong(Long::longValue).toArray();\n}\n}\n");
        JavaCompiler javac = ToolProvider.getSystemJavaCompiler();
        Check.due("there is a compiler", javac != null);
        if (javac == null) {
            return false;
        }
        String on = System.getProperty("java.class.path");
        int failed = javac.run(null, System.out, System.out, "-cp", on, "-d", MADE.toString(), file.toString());
        Check.due("README.md's lines compile", failed == 0);
        return failed == 0;
    }
}
