import java.util.regex.Matcher;
import java.util.regex.Pattern;

/**
 * One step of a run, written as a text: a call with the answer that is due, as "append(1, 10) 0", or a
 * call alone, whose answer is not looked at. "60 * append(3, 1)" is the call made sixty times; MIN and
 * MAX are the least and the greatest int; " !" at the end says that the call must change nothing.
 */
final class Step {
    private static final Pattern FORM =
        Pattern.compile("(?:(\\d+) \\* )?(\\w+)\\(([^,)]*)(?:, ([^)]*))?\\)(?: ([^!]*?))?( !)?");

    final int times;
    final Call call;
    final String due;
    final boolean idle;

    Step(String text) {
        Matcher parts = FORM.matcher(text.replace("MIN", "-2147483648").replace("MAX", "2147483647"));
        if (!parts.matches()) {
            throw new IllegalArgumentException("not a step: " + text);
        }
        times = number(parts.group(1), 1);
        call = new Call(parts.group(2), number(parts.group(3), 0), number(parts.group(4), 0));
        due = parts.group(5);
        idle = parts.group(6) != null;
    }

    private static int number(String text, int without) {
        return text == null || text.isEmpty() ? without : Integer.parseInt(text);
    }
}
