import java.io.IOException;
import java.nio.file.Files;
import java.nio.file.Path;
import java.util.List;

/** Those rules of LANGUAGE.md that the text of the class can be asked for. */
public final class LanguageTests {
    private static final Checks CHECKS = new Checks("LanguageTests");
    private static final Path CLASS = Path.of("src/main/java/MirrorKeep.java");
    private static final String[] RULED_OUT = {"->", "::", "\\btry\\b", "\\bcatch\\b", "\\bfinally\\b",
        "\\bsynchronized\\b", "\\bassert\\b", "Exact\\(", "\\bdouble\\b", "\\bfloat\\b", "\\bpackage\\b",
        "\\bprotected\\b", "\\bThread\\b", "\\bRandom\\b", "System\\.(?!arraycopy)", "\\bvar\\b", "\\bstatic \\{",
        "\\bObject\\b", "\\bequals\\b", "\\bhashCode\\b", "\\btoString\\b"};
    private static final int MOST_LINES = 60;

    public static void main(String[] args) throws IOException {
        List<String> lines = Files.readAllLines(CLASS);
        wordsThatAreRuledOut(lines);
        methodsAreShort(lines);
        CHECKS.end();
    }

    private static boolean isComment(String line) {
        String text = line.strip();
        return text.startsWith("*") || text.startsWith("/*") || text.startsWith("//");
    }

    private static void wordsThatAreRuledOut(List<String> lines) {
        for (int i = 0; i < lines.size(); i++) {
            String line = lines.get(i);
            if (isComment(line)) {
                continue;
            }
            for (String word : RULED_OUT) {
                boolean found = line.matches(".*" + word + ".*");
                CHECKS.due("line " + (i + 1) + " has " + word + ": " + line.strip(), found ? 1 : 0, 0);
            }
            if (line.startsWith("import")) {
                CHECKS.due("import", line, "import java.util.Arrays;");
            }
        }
    }

    /** A method's own closing brace stands in the column in which it began. */
    private static void methodsAreShort(List<String> lines) {
        for (int i = 0; i < lines.size(); i++) {
            String line = lines.get(i);
            if (isComment(line) || !line.matches(" +[a-zA-Z].*\\(.*\\) ?(throws .*)?\\{") || line.contains(" class ")) {
                continue;
            }
            String close = " ".repeat(line.indexOf(line.strip())) + "}";
            int end = i;
            while (end < lines.size() && !lines.get(end).startsWith(close)) {
                end++;
            }
            CHECKS.due("method of line " + (i + 1) + " is short", end - i <= MOST_LINES ? 1 : 0, 1);
        }
    }
}
