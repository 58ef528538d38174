import java.io.IOException;
import java.nio.file.Files;
import java.nio.file.Path;
import java.util.List;
import java.util.regex.Matcher;
import java.util.regex.Pattern;

/** What README.md shows: each of its Java blocks is a new object, and each call there answers what stands behind it. */
public final class ReadmeTest {
    private static final Path README = Path.of("README.md");
    private static final Pattern CALL = Pattern.compile("town\\.(\\w+)\\((.*)\\); +// (throws )?(\\S+).*");
    private static final Check CHECK = new Check();

    public static void main(String[] args) throws IOException {
        Allstreets town = null;
        int calls = 0;
        for (String line : blocks(Files.readString(README))) {
            Matcher call = CALL.matcher(line);
            if (line.equals("Allstreets town = new Allstreets();")) {
                town = new Allstreets();
            } else if (town == null || !call.matches()) {
                CHECK.fail("README.md shows no call with its answer in: " + line);
            } else {
                String written = call.group(1) + " " + call.group(2).replace(",", "");
                String due = (call.group(3) == null ? "" : "throws.") + call.group(4).replace("\"", "");
                CHECK.due(line, Calls.answer(town, written.trim()), due);
                calls++;
            }
        }
        CHECK.due("README.md shows some calls", calls > 20, true);
        CHECK.end();
    }

    private static List<String> blocks(String text) {
        return Pattern.compile("```java\n(.*?)```", Pattern.DOTALL).matcher(text).results()
            .flatMap(block -> block.group(1).lines()).filter(line -> !line.isBlank()).toList();
    }
}
