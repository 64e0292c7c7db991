import java.io.IOException;
import java.nio.file.Files;
import java.nio.file.Path;
import java.util.regex.Matcher;
import java.util.regex.Pattern;

/** The examples of README.md: each call of its Java answers what stands behind it, each text has the value behind it. */
public final class ReadmeTest {
    private static final Pattern CALL = Pattern.compile("core\\.(\\w+)\\((.*)\\);\\s+// (throws )?([^ ,]+).*");
    private static final Pattern TEXT = Pattern.compile("(\\(.*\\)) +(\\S+)");
    private static final Calls CALLS = new Calls("README.md");
    private static int examples;

    public static void main(String[] args) throws IOException, ReflectiveOperationException {
        String block = "";
        for (String line : Files.readAllLines(Path.of("README.md"))) {
            if (line.startsWith("```")) {
                block = block.isEmpty() ? line.substring(3) : "";
            } else if (block.equals("java")) {
                java(line);
            } else if (block.equals("text")) {
                text(line);
            }
        }
        // Fewer would mean that examples are not found any more.
        CALLS.due("examples", examples, 20);
        Calls.end();
    }

    private static void java(String line) throws ReflectiveOperationException {
        Matcher call = CALL.matcher(line);
        if (!call.matches()) {
            CALLS.due("a line that is no call", line, "ContinuationCore core = new ContinuationCore();");
            return;
        }
        examples++;
        String[] numbers = call.group(2).replace("L", "").split(", ");
        String want = call.group(3) == null ? "" + answer(call.group(4)) : "throws." + call.group(4);
        CALLS.due(line, Calls.answerOf(() -> make(call.group(1), numbers)), want);
    }

    private static int answer(String written) throws ReflectiveOperationException {
        if (written.startsWith("ContinuationCore.")) {
            return ContinuationCore.class.getField(written.substring("ContinuationCore.".length())).getInt(null);
        }
        return written.startsWith("'") ? written.charAt(1) : Integer.parseInt(written);
    }

    private static int make(String name, String[] numbers) {
        long first = numbers[0].isEmpty() ? 0 : Long.decode(numbers[0]);
        switch (name) {
            case "given":
                return CALLS.core.given((int) first, Integer.parseInt(numbers[1]));
            case "text":
                return CALLS.core.text(first);
            case "clear":
                return CALLS.core.clear();
            case "whole":
                return CALLS.core.whole();
            case "start":
                return CALLS.core.start();
            case "run":
                return CALLS.core.run((int) first);
            case "state":
                return CALLS.core.state((int) first);
            case "sign":
                return CALLS.core.sign((int) first);
            default:
                throw new AssertionError("no such call: " + name);
        }
    }

    private static void text(String line) {
        Matcher text = TEXT.matcher(line);
        CALLS.due("a text with its value: " + line, text.matches(), true);
        examples++;
        new Calls("README.md").value(text.group(1), text.group(2));
    }
}
