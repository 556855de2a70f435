/** Mixed runs of at most 512 calls, answer by answer against the model. */
final class ModelTest {
    private static final int RUNS = 4000;
    private static final int CALLS = 512;

    private final Check check = new Check();
    private SegmentLog log;
    private Model model;
    private String run;
    private int calls;

    public static void main(String[] args) {
        ModelTest test = new ModelTest();
        for (int seed = 0; seed < RUNS; seed++) {
            test.mixedRun(seed);
        }
        test.check.end("ModelTest");
    }

    private void mixedRun(int seed) {
        log = new SegmentLog();
        model = new Model();
        run = "run " + seed;
        calls = 0;
        CallMaker maker = new CallMaker(seed);
        int mixed = 1 + maker.below(CALLS);
        while (calls < mixed) {
            make(maker.call(end()));
        }
        lookAtAll();
    }

    /** What is left of the calls that count is spent on the whole state, in turn. */
    private void lookAtAll() {
        int end = end();
        for (int i = -1; i <= end + 1; i++) {
            for (String name : CallMaker.READS) {
                make(new Call(name, i, 0));
            }
        }
    }

    private int end() {
        return Integer.parseInt(model.answer(new Call("end", 0, 0)));
    }

    private void make(Call call) {
        if (calls < CALLS) {
            calls++;
            check.due(run + ", call " + calls + ": " + call, call.on(log), model.answer(call));
        }
    }
}
