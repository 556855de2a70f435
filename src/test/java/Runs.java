import java.util.ArrayList;
import java.util.List;

/**
 * Makes runs that are written as steps, each on a new object, and holds the answers against those that
 * are due. What is wrong is printed with the sentence of the document that the run is about.
 */
final class Runs {
    static final String OUT = Check.OUT_OF_BOUNDS;
    static final String NO = Check.NO_ELEMENT;

    /** Calls behind one that must change nothing: they would bring to light what cannot be seen at once. */
    private static final String[][] FURTHER = {
        {},
        {"roll()", "flush()", "compact()", "compact()"},
        {"compact()", "retain(1)", "retain(0)", "flush()"},
        {"crash()", "remove(0)", "append(15, 1)"},
        {"poll(0)", "poll(1)", "poll(2)", "poll(3)", "6 * append(5, 3)"},
    };

    private final Check check = new Check();
    private String sentence = "";

    /** The runs that follow are about this sentence. */
    void sentence(String text) {
        sentence = text;
    }

    void run(String... steps) {
        Subject subject = new Subject();
        List<Call> before = new ArrayList<>();
        for (String text : steps) {
            Step step = new Step(text);
            for (int i = 0; i < step.times; i++) {
                String answer = subject.answer(step.call);
                if (step.due != null) {
                    check.due(told(steps, text), answer, step.due);
                }
                if (step.idle) {
                    changesNothing(told(steps, text), before, step.call);
                }
                before.add(step.call);
            }
        }
    }

    /** The same steps before each of several last ones, each on an object of its own. */
    void each(String[] before, String... last) {
        for (String step : last) {
            run(with(before, step));
        }
    }

    static String[] steps(String... steps) {
        return steps;
    }

    static String[] with(String[] before, String... behind) {
        List<String> all = new ArrayList<>(List.of(before));
        all.addAll(List.of(behind));
        return all.toArray(new String[0]);
    }

    void end(String test) {
        check.end(test);
    }

    private void changesNothing(String told, List<Call> before, Call idle) {
        List<Call> with = new ArrayList<>(before);
        with.add(idle);
        for (String[] further : FURTHER) {
            String behind = told + ", then " + String.join(", ", further);
            check.due(behind, seenBehind(with, further), seenBehind(before, further));
        }
    }

    private static String seenBehind(List<Call> before, String[] further) {
        Subject subject = new Subject();
        for (Call call : before) {
            subject.answer(call);
        }
        StringBuilder seen = new StringBuilder();
        for (String text : further) {
            Step step = new Step(text);
            for (int i = 0; i < step.times; i++) {
                seen.append(subject.answer(step.call)).append("; ");
            }
        }
        return seen + subject.whole();
    }

    private String told(String[] steps, String text) {
        return sentence + " | " + String.join(", ", steps) + " | " + text;
    }
}
