import java.io.IOException;
import java.nio.file.Files;
import java.nio.file.Path;
import java.util.regex.Matcher;
import java.util.regex.Pattern;

/** README.md's example, call by call: each line's comment begins with the answer that is due. */
public final class ReadmeTest {
    private static final Pattern BLOCK = Pattern.compile("```java\n(.*?)```", Pattern.DOTALL);
    private static final Pattern CALL = Pattern.compile("desk\\.(\\w+\\(.*\\)); +// ([^:]+): .*");

    public static void main(String[] args) throws IOException {
        Due due = new Due("ReadmeTest");
        String readme = Files.readString(Path.of(System.getProperty("readme", "README.md")));
        Matcher block = BLOCK.matcher(readme);
        due.yes("README.md has an example", block.find());
        String[] lines = block.group(1).split("\n");
        due.yes("the example begins with a new desk", lines[0].equals("ServoDesk desk = new ServoDesk();"));
        StringBuilder calls = new StringBuilder();
        for (int at = 1; at < lines.length; at++) {
            Matcher call = CALL.matcher(lines[at]);
            due.yes("a call with its answer: " + lines[at], lines[at].isBlank() || call.matches());
            if (!lines[at].isBlank()) {
                calls.append(written(call.group(1)) + " = " + written(call.group(2)) + "\n");
            }
        }
        due.yes("the example uses every method", calls.toString().matches(
            "(?s)(?=.*axis\\()(?=.*set\\()(?=.*bits\\()(?=.*orders\\()(?=.*follow\\()(?=.*order\\().*"));
        Script.run(due, "README.md", calls.toString());
        due.end();
    }

    /** Java's way to write bits, as a script writes them. */
    private static String written(String java) {
        return java.replaceAll("Double\\.doubleToRawLongBits\\(([^)]*)\\)", "$1d")
            .replace("ServoDesk.NONE", "NONE");
    }
}
