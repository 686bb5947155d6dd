import java.io.IOException;
import java.lang.reflect.Method;
import java.lang.reflect.Modifier;
import java.nio.file.Files;
import java.nio.file.Path;
import java.util.ArrayList;
import java.util.List;
import java.util.regex.Matcher;
import java.util.regex.Pattern;

/** README.md's example, line by line as it stands there, and its table of calls. */
public final class ReadmeTests {
    private static final Checks CHECKS = new Checks("ReadmeTests");
    private static final Path README = Path.of("README.md");
    private static final Pattern LINE = Pattern.compile("keep\\.(\\w+)\\((.*?)\\); +// (?:(-?\\d+): )?.+");

    public static void main(String[] args) throws IOException {
        List<String> lines = Files.readAllLines(README);
        exampleAnswersWhatItSays(lines);
        tableHasEveryCall(lines);
        CHECKS.end();
    }

    private static void exampleAnswersWhatItSays(List<String> lines) {
        MirrorKeep keep = new MirrorKeep();
        int from = lines.indexOf("```java") + 1;
        CHECKS.holds("there is an example", from > 0);
        CHECKS.due("its first line", lines.get(from), "MirrorKeep keep = new MirrorKeep();");
        for (String line : lines.subList(from + 1, from + lines.subList(from, lines.size()).indexOf("```"))) {
            if (!line.isEmpty()) {
                runLine(keep, line);
            }
        }
    }

    private static void runLine(MirrorKeep keep, String line) {
        Matcher matcher = LINE.matcher(line);
        boolean call = matcher.matches();
        CHECKS.holds("a call with a comment: " + line, call);
        if (call) {
            String want = matcher.group(3) == null ? "null" : matcher.group(3);
            CHECKS.due(line, new Call(matcher.group(1), arguments(matcher.group(2))).on(keep), want);
        }
    }

    private static List<Object> arguments(String text) {
        List<Object> arguments = new ArrayList<>();
        for (String one : text.isEmpty() ? new String[0] : text.split(", ")) {
            if (one.equals("true") || one.equals("false")) {
                arguments.add(Boolean.valueOf(one));
            } else {
                arguments.add(Integer.decode(one));
            }
        }
        return arguments;
    }

    private static void tableHasEveryCall(List<String> lines) {
        for (Method method : MirrorKeep.class.getDeclaredMethods()) {
            if (Modifier.isPublic(method.getModifiers())) {
                String start = "`" + method.getName() + "(";
                CHECKS.holds(start, lines.stream().anyMatch(line -> line.startsWith("| `") && line.contains(start)));
            }
        }
    }
}
