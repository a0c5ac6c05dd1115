import java.io.IOException;
import java.nio.file.Files;
import java.nio.file.Path;
import java.util.ArrayList;
import java.util.List;
import java.util.regex.Matcher;
import java.util.regex.Pattern;

/**
 * Writes ReadmeRun.java of the Java that README.md shows into a directory: a test in which each call has to
 * answer what stands behind it. .ci/run compiles and runs that.
 */
public final class ReadmeTest {
    private static final Check CHECK = new Check("ReadmeTest");
    private static final Pattern BLOCK = Pattern.compile("```java\n(.*?)```", Pattern.DOTALL);
    private static final Pattern CALL = Pattern.compile("((?:x\\.|tell\\().*\\)); *// (-?\\d+|BAD|STATE|FULL|NONE)\\b.*");

    public static void main(String[] args) throws IOException {
        List<String> blocks = blocks(Files.readString(Path.of("README.md")));
        CHECK.due("blocks of Java in README.md", blocks.size(), 2);
        if (args.length == 1 && blocks.size() == 2) {
            String source = "public final class ReadmeRun {\n" + blocks.get(1)
                + "public static void main(String[] args) {\nCheck check = new Check(\"ReadmeRun\");\n"
                + asked(blocks.get(0)) + "check.finish();\n}\n}\n";
            Files.writeString(Path.of(args[0], "ReadmeRun.java"), source);
        }
        CHECK.holds("a directory is told", args.length == 1);
        CHECK.finish();
    }

    private static List<String> blocks(String readme) {
        List<String> found = new ArrayList<>();
        Matcher m = BLOCK.matcher(readme);
        while (m.find()) {
            found.add(m.group(1));
        }
        return found;
    }

    /** Each call becomes one whose answer is compared with what stands behind it. */
    private static String asked(String block) {
        StringBuilder code = new StringBuilder();
        for (String line : block.split("\n")) {
            Matcher m = CALL.matcher(line);
            if (m.matches()) {
                String due = m.group(2).matches("[A-Z]+") ? "EldestAge." + m.group(2) : m.group(2);
                code.append("check.due(").append(quoted(m.group(1))).append(", ").append(m.group(1)).append(", ").append(due).append(");\n");
            } else {
                CHECK.holds("a call with its answer: " + line, !line.matches("(x\\.|tell\\().*"));
                code.append(line).append("\n");
            }
        }
        CHECK.holds("README.md has calls with answers", code.indexOf("check.due") >= 0);
        return code.toString();
    }

    private static String quoted(String text) {
        return "\"" + text.replace("\\", "\\\\").replace("\"", "\\\"") + "\"";
    }
}
