import java.io.IOException;
import java.lang.reflect.Method;
import java.lang.reflect.Modifier;
import java.nio.file.Files;
import java.nio.file.Path;
import java.util.List;
import java.util.regex.Matcher;
import java.util.regex.Pattern;

/** README.md tells the truth: its example answers as it says, and it names each call of the face. */
final class ReadmeTest {
    private static final Pattern EXAMPLE = Pattern.compile("log\\.(\\w+\\(.*\\)); +// ([-\\w.]+).*");
    private static final Check check = new Check();

    public static void main(String[] args) throws IOException {
        List<String> lines = Files.readAllLines(Path.of("README.md"));
        example(lines);
        everyCallIsNamed(String.join("\n", lines));
        check.end("ReadmeTest");
    }

    private static void example(List<String> lines) {
        Subject log = new Subject();
        int examples = 0;
        for (String line : lines) {
            Matcher parts = EXAMPLE.matcher(line);
            check.due("can be read: " + line, parts.matches(), line.startsWith("log."));
            if (parts.matches()) {
                check.due(line, log.answer(new Step(parts.group(1)).call), parts.group(2));
                examples++;
            }
        }
        check.due("README.md has an example", examples > 0, true);
    }

    private static void everyCallIsNamed(String text) {
        for (Method method : SegmentLog.class.getDeclaredMethods()) {
            if (Modifier.isPublic(method.getModifiers())) {
                check.due("README.md names " + method, text.contains("`" + method.getName() + "("), true);
            }
        }
    }
}
