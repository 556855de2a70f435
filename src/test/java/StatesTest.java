import java.util.ArrayList;
import java.util.HashSet;
import java.util.List;
import java.util.Set;

/**
 * Every state that the model can come to by some of the changing calls while END is low, to the last
 * one: in each of them each of these calls is made, and its answer and all that can be seen behind it
 * are held against the model. Mixed runs come to few of these states; here none is left out.
 */
final class StatesTest {
    private static final Check check = new Check();

    private final int mostOffsets;
    private final List<Call> changes = new ArrayList<>();
    private final Set<String> seen = new HashSet<>();

    private StatesTest(int mostOffsets, String... changes) {
        this.mostOffsets = mostOffsets;
        for (String text : changes) {
            this.changes.add(new Step(text).call);
        }
    }

    public static void main(String[] args) {
        new StatesTest(3, "append(0, 7)", "append(15, -1)", "remove(0)", "flush()", "crash()", "roll()", "retain(0)",
            "retain(2)", "compact()", "poll(0)", "commit(0, 2)").allStates("all calls");
        new StatesTest(4, "append(0, 7)", "append(15, -1)", "remove(0)", "flush()", "crash()", "roll()", "compact()")
            .allStates("cleaning");
        new StatesTest(7, "append(0, 7)", "flush()", "crash()", "roll()", "retain(0)", "retain(2)", "compact()")
            .allStates("segments");
        new StatesTest(6, "append(0, 7)", "flush()", "crash()", "retain(0)", "compact()", "poll(3)", "commit(3, 5)")
            .allStates("readers");
        check.end("StatesTest");
    }

    private void allStates(String name) {
        List<List<Call>> runs = List.of(List.of());
        seen.add(new Model().state());
        while (!runs.isEmpty()) {
            runs = oneCallMore(runs);
        }
        System.out.println("StatesTest, " + name + ": " + seen.size() + " states");
    }

    /** The runs that come to a state not seen before. */
    private List<List<Call>> oneCallMore(List<List<Call>> runs) {
        List<List<Call>> longer = new ArrayList<>();
        for (List<Call> run : runs) {
            for (Call change : changes) {
                List<Call> with = new ArrayList<>(run);
                with.add(change);
                Model model = compared(with);
                if (number(model, "end") <= mostOffsets && seen.add(model.state())) {
                    longer.add(with);
                }
            }
        }
        return longer;
    }

    private Model compared(List<Call> run) {
        SegmentLog log = new SegmentLog();
        Model model = new Model();
        String answer = "";
        String due = "";
        for (Call call : run) {
            answer = call.on(log);
            due = model.answer(call);
        }
        same(answer, due, run, "its last call");
        for (Call look : looks(number(model, "end"), number(model, "segments"))) {
            same(look.on(log), model.answer(look), run, look);
        }
        return model;
    }

    /** The run is told only where an answer is wrong: there are millions of them. */
    private static void same(String answer, String due, List<Call> run, Object asked) {
        check.due(answer.equals(due) ? "" : run + ", " + asked, answer, due);
    }

    private static List<Call> looks(int end, int segments) {
        List<Call> looks = new ArrayList<>();
        for (String bound : new String[] {"start", "end", "durable", "segments"}) {
            looks.add(new Call(bound, 0, 0));
        }
        for (int k = 0; k <= segments; k++) {
            looks.add(new Call("base", k, 0));
        }
        for (int offset = 0; offset <= end; offset++) {
            looks.add(new Call("key", offset, 0));
            looks.add(new Call("value", offset, 0));
            looks.add(new Call("next", offset, 0));
        }
        for (int group = 0; group < 4; group += 3) {
            looks.add(new Call("position", group, 0));
            looks.add(new Call("lag", group, 0));
        }
        looks.add(new Call("latest", 0, 0));
        looks.add(new Call("latest", 15, 0));
        return looks;
    }

    private static int number(Model model, String name) {
        return Integer.parseInt(model.answer(new Call(name, 0, 0)));
    }
}
