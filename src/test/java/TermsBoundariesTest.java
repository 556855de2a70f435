/** The boundary cases that "What it is" and "Terms" name, sentence by sentence. */
final class TermsBoundariesTest {
    private static final String OUT = Runs.OUT;
    private static final String NO = Runs.NO;
    private static final Runs runs = new Runs();

    public static void main(String[] args) {
        lastCallThatCounts();
        keys();
        values();
        startAndEndAtFirst();
        offsetsAreNotGivenTwice();
        offsetsThatACrashHasLost();
        durableIsNeverAboveEnd();
        crashLosesFromDurableOn();
        segmentHoldsFromItsBaseOn();
        lastSegmentIsActive();
        oneSegmentAtFirst();
        rollPutsABaseAtEnd();
        thePoint();
        groups();
        refusedChangesNothingWhenNew();
        refusedChangesNothingWithHoles();
        refusedChangesNothingBehindRetain();
        refusedChangesNothingBehindCrash();
        refusedChangesNothingWhenFull();
        runs.end("TermsBoundariesTest");
    }

    private static void lastCallThatCounts() {
        runs.sentence("What it is: An object is used for at most 512 calls after it has been made");
        // 9 calls that make a state, and calls that only look, so that the last two are the 511th and 512th.
        String[] before = Runs.steps("append(1, 10) 0", "append(1, 11) 1", "remove(2) 2", "roll() true", "flush() 3",
            "append(3, 30) 3", "compact() 1", "poll(0) 1", "commit(1, 3) true", "501 * position(3) 0");
        runs.each(before, "2 * start() 0", "2 * end() 4", "2 * durable() 3", "2 * segments() 2", "2 * base(1) 3",
            "2 * latest(3) 3", "2 * lag(0) 2", "2 * position(0) 2", "2 * next(0) 1", "2 * key(2) 18", "2 * value(2) 0",
            "2 * value(0) " + NO, "2 * key(4) " + OUT, "2 * commit(2, 4) true", "2 * commit(2, 5) false",
            "2 * append(16, 1) -1", "2 * remove(-1) -1", "2 * retain(-1) -1", "2 * poll(4) -1");
        runs.run(Runs.with(before, "append(4, 40) 4", "append(4, 41) 5"));
        runs.run(Runs.with(before, "remove(4) 4", "remove(4) 5"));
        runs.run(Runs.with(before, "flush() 1", "flush() 0"));
        runs.run(Runs.with(before, "crash() 1", "crash() 0"));
        runs.run(Runs.with(before, "roll() true", "roll() false"));
        runs.run(Runs.with(before, "retain(1) 2", "retain(0) 0"));
        runs.run(Runs.with(before, "compact() 1", "compact() 0"));
        runs.run(Runs.with(before, "poll(0) 2", "poll(0) 3"));
    }

    private static void keys() {
        runs.sentence("Terms: A RECORD has an OFFSET, a KEY 0 .. 15");
        runs.run("append(-1, 5) -1 !", "append(0, 5) 0", "append(1, 5) 1", "append(14, 5) 2", "append(15, 5) 3",
            "append(16, 5) -1 !", "keys(0, 3) 0 1 14 15", "bounds() 0 0 4");
        runs.run("remove(-1) -1 !", "remove(0) 0", "remove(1) 1", "remove(14) 2", "remove(15) 3", "remove(16) -1 !",
            "keys(0, 3) 16 17 30 31", "bounds() 0 0 4");
    }

    private static void values() {
        runs.sentence("Terms: and a value (an int) or none: then it is a REMOVAL of its key");
        runs.run("append(1, MIN) 0", "append(1, -2147483647) 1", "append(1, -1) 2", "append(1, 0) 3", "append(1, 1) 4",
            "append(1, 2147483646) 5", "append(1, MAX) 6", "remove(1) 7",
            "values(0, 7) MIN -2147483647 -1 0 1 2147483646 MAX 0", "keys(0, 7) 1 1 1 1 1 1 1 17");
        runs.run("append(1, 0) 0", "latest(1) 0", "remove(1) 1", "latest(1) -1");
    }

    private static void startAndEndAtFirst() {
        runs.sentence("Terms: both are 0 at first");
        runs.run("start() 0", "end() 0");
        runs.run("append(1, 1) 0", "start() 0", "end() 1");
        runs.run("remove(1) 0", "start() 0", "end() 1");
    }

    private static void offsetsAreNotGivenTwice() {
        runs.sentence("Terms: Offsets are never given twice");
        runs.run("remove(1) 0", "roll() true", "flush() 1", "compact() 0", "compact() 1", "records() none",
            "bounds() 0 1 1", "append(1, 1) 1", "records() 1");
        runs.run("5 * append(1, 1)", "retain(0) 5", "records() none", "bounds() 5 5 5", "append(1, 1) 5");
        runs.run("append(1, 1) 0", "append(16, 1) -1", "remove(-1) -1", "append(1, 1) 1");
        runs.run("60 * append(1, 1)", "append(1, 1) -2", "remove(1) -2", "flush() 60", "compact() 59",
            "append(1, 1) 60", "append(1, 1) 61");
    }

    private static void offsetsThatACrashHasLost() {
        runs.sentence("Terms: but for those that a crash has lost");
        runs.run("2 * append(1, 1)", "flush() 2", "append(2, 2) 2", "append(2, 3) 3", "crash() 2", "append(3, 4) 2",
            "append(3, 5) 3", "append(3, 6) 4", "keys(0, 4) 1 1 3 3 3", "values(0, 4) 1 1 4 5 6");
        runs.run("append(1, 1) 0", "flush() 1", "crash() 0", "append(1, 2) 1", "values(0, 1) 1 2");
        runs.run("append(1, 1) 0", "crash() 1", "append(2, 2) 0", "keys(0, 0) 2");
    }

    private static void durableIsNeverAboveEnd() {
        runs.sentence("Terms: DURABLE is an offset, 0 at first, never above END");
        runs.run("bounds() 0 0 0", "flush() 0", "bounds() 0 0 0", "crash() 0", "bounds() 0 0 0", "retain(0) 0",
            "bounds() 0 0 0");
        runs.run("append(1, 1) 0", "bounds() 0 0 1", "flush() 1", "bounds() 0 1 1", "append(1, 1) 1",
            "bounds() 0 1 2", "crash() 1", "bounds() 0 1 1");
        runs.run("5 * append(1, 1)", "retain(0) 5", "bounds() 5 5 5", "crash() 0", "bounds() 5 5 5");
        runs.run("5 * append(1, 1)", "flush() 5", "compact() 4", "bounds() 0 5 5", "retain(0) 1", "bounds() 5 5 5");
        runs.run("4 * append(1, 1)", "retain(0) 0", "bounds() 0 0 4");
    }

    private static void crashLosesFromDurableOn() {
        runs.sentence("Terms: a crash loses the records at it and above");
        runs.run("append(1, 10) 0", "append(2, 20) 1", "flush() 2", "append(3, 30) 2", "append(4, 40) 3", "durable() 2",
            "crash() 2", "value(1) 20", "value(2) " + OUT, "value(3) " + OUT, "records() 0 1");
        runs.run("append(3, 30) 0", "append(4, 40) 1", "crash() 2", "value(0) " + OUT, "records() none");
    }

    private static void segmentHoldsFromItsBaseOn() {
        runs.sentence("Terms: and holds the records from its base on that are below the next segment's base");
        String[] before = Runs.steps("3 * append(1, 1)", "roll() true", "2 * append(2, 2)", "bases() 0 3");
        runs.run(Runs.with(before, "retain(3) 0", "records() 0 1 2 3 4", "retain(2) 3", "records() 3 4"));
        runs.run(Runs.with(before, "flush() 5", "compact() 2", "records() 2 3 4", "retain(2) 1", "records() 3 4"));
    }

    private static void lastSegmentIsActive() {
        runs.sentence("Terms: The last one is ACTIVE, the others are CLOSED");
        runs.run("retain(0) 0", "bases() 0");
        runs.run("4 * append(1, 1)", "retain(0) 0", "bases() 0", "records() 0 1 2 3");
        runs.run("5 * append(1, 1)", "retain(0) 5", "bases() 5", "records() none");
        runs.run("6 * append(1, 1)", "retain(0) 5", "bases() 5", "records() 5");
        runs.run("11 * append(1, 1)", "retain(0) 10", "bases() 10", "records() 10");
    }

    private static void oneSegmentAtFirst() {
        runs.sentence("Terms: At first there is one, active, with base 0");
        runs.run("segments() 1", "base(-1) -1", "base(0) 0", "base(1) -1", "roll() false !");
    }

    private static void rollPutsABaseAtEnd() {
        runs.sentence("Terms: a new active one with base END is put behind it");
        runs.run("append(1, 1) 0", "roll() true", "bases() 0 1", "end() 1", "append(1, 1) 1", "roll() true",
            "bases() 0 1 2", "end() 2", "retain(0) 2", "bases() 2");
    }

    private static void thePoint() {
        runs.sentence("Terms: THE POINT is the greatest base of a segment that is not above DURABLE");
        // All records have one key, so that those below THE POINT go but for the one right below it.
        runs.run("4 * append(1, 1)", "flush() 4", "2 * append(1, 1)", "bases() 0 5", "compact() 0", "records() 0 1 2 3 4 5");
        runs.run("5 * append(1, 1)", "flush() 5", "append(1, 1) 5", "bases() 0 5", "compact() 4", "records() 4 5");
        runs.run("6 * append(1, 1)", "flush() 6", "bases() 0 5", "compact() 4", "records() 4 5");
        runs.run("9 * append(1, 1)", "flush() 9", "3 * append(1, 1)", "bases() 0 5 10", "compact() 4",
            "records() 4 5 6 7 8 9 10 11");
        runs.run("10 * append(1, 1)", "flush() 10", "2 * append(1, 1)", "bases() 0 5 10", "compact() 9",
            "records() 9 10 11");
        runs.run("11 * append(1, 1)", "flush() 11", "append(1, 1) 11", "bases() 0 5 10", "compact() 9",
            "records() 9 10 11");
        runs.run("12 * append(1, 1)", "compact() 0", "retain(7) 5", "bounds() 5 5 12", "compact() 0", "flush() 7",
            "compact() 4", "records() 9 10 11");
        runs.run("4 * append(1, 1)", "flush() 4", "crash() 0", "bases() 0 4", "compact() 3", "records() 3");
    }

    private static void groups() {
        runs.sentence("Terms: GROUPS are 0 .. 3; each has a POSITION, an offset, 0 at first");
        runs.run("position(-1) -1 !", "position(0) 0", "position(1) 0", "position(2) 0", "position(3) 0",
            "position(4) -1 !", "position(MIN) -1 !", "position(MAX) -1 !");
        runs.run("4 * append(1, 1)", "commit(-1, 1) false !", "commit(0, 1) true", "commit(1, 2) true",
            "commit(2, 3) true", "commit(3, 4) true", "commit(4, 1) false !", "positions() 1 2 3 4", "lags() 3 2 1 0");
        runs.run("append(1, 1) 0", "poll(-1) -1 !", "poll(0) 0", "positions() 1 0 0 0", "poll(3) 0",
            "positions() 1 0 0 1", "poll(4) -1 !", "lag(-1) -1 !", "lag(0) 0", "lag(1) 1", "lag(2) 1", "lag(3) 0",
            "lag(4) -1 !");
    }

    private static void refusedChangesNothingWhenNew() {
        runs.sentence("Terms: A call that throws, or is refused, changes nothing (a new object)");
        String[] before = {};
        refusedEverywhere(before);
        runs.each(before, "roll() false !", "poll(0) -1 !", "commit(0, -1) false !", "commit(0, 1) false !",
            "value(-1) " + OUT + " !", "value(0) " + OUT + " !", "key(-1) " + OUT + " !", "key(0) " + OUT + " !");
    }

    private static void refusedChangesNothingWithHoles() {
        runs.sentence("Terms: A call that throws, or is refused, changes nothing (holes and removals)");
        String[] before = Runs.steps("append(1, 10) 0", "append(1, 11) 1", "remove(2) 2", "append(3, 30) 3",
            "remove(1) 4", "flush() 5", "compact() 2", "append(4, 40) 5", "remove(5) 6", "commit(1, 4) true",
            "poll(2) 2", "commit(3, 7) true", "records() 2 3 4 5 6");
        refusedEverywhere(before);
        runs.each(before, "poll(3) -1 !", "commit(0, -1) false !", "commit(0, 8) false !",
            "value(-1) " + OUT + " !", "value(0) " + NO + " !", "value(1) " + NO + " !", "value(7) " + OUT + " !",
            "key(-1) " + OUT + " !", "key(0) " + NO + " !", "key(1) " + NO + " !", "key(7) " + OUT + " !");
    }

    private static void refusedChangesNothingBehindRetain() {
        runs.sentence("Terms: A call that throws, or is refused, changes nothing (START above 0)");
        String[] before = Runs.steps("6 * append(1, 1)", "remove(2) 6", "3 * append(3, 3)", "commit(1, 9) true",
            "commit(2, 3) true", "commit(3, 10) true", "retain(5) 5", "bases() 5 10", "bounds() 5 5 10");
        refusedEverywhere(before);
        runs.each(before, "roll() false !", "poll(3) -1 !", "commit(0, 4) false !", "commit(0, 11) false !",
            "value(4) " + OUT + " !", "value(10) " + OUT + " !", "key(4) " + OUT + " !", "key(10) " + OUT + " !");
    }

    private static void refusedChangesNothingBehindCrash() {
        runs.sentence("Terms: A call that throws, or is refused, changes nothing (behind a crash)");
        String[] before = Runs.steps("append(1, 1) 0", "remove(2) 1", "flush() 2", "3 * append(3, 3)",
            "commit(1, 5) true", "crash() 3", "bases() 0 2", "positions() 0 2 0 0");
        refusedEverywhere(before);
        runs.each(before, "roll() false !", "poll(1) -1 !", "commit(0, -1) false !", "commit(0, 3) false !",
            "value(2) " + OUT + " !", "value(4) " + OUT + " !", "key(2) " + OUT + " !", "key(4) " + OUT + " !");
    }

    private static void refusedChangesNothingWhenFull() {
        runs.sentence("Terms: A call that throws, or is refused, changes nothing (60 records)");
        String[] before = Runs.steps("30 * append(1, 1)", "flush() 30", "29 * append(2, 2)", "remove(3) 59",
            "commit(1, 60) true", "lag(0) 60");
        refusedEverywhere(before);
        runs.each(before, "append(0, 7) -2 !", "append(15, 7) -2 !", "remove(0) -2 !", "remove(15) -2 !",
            "roll() false !", "poll(1) -1 !", "commit(1, 61) false !", "value(60) " + OUT + " !",
            "key(60) " + OUT + " !");
    }

    /** Calls that are refused, or throw, in every state. */
    private static void refusedEverywhere(String[] before) {
        runs.each(before, "append(-1, 7) -1 !", "append(16, 7) -1 !", "append(MIN, 7) -1 !", "append(MAX, 7) -1 !",
            "remove(-1) -1 !", "remove(16) -1 !", "remove(MIN) -1 !", "remove(MAX) -1 !", "retain(-1) -1 !",
            "retain(MIN) -1 !", "value(MIN) " + OUT + " !", "value(MAX) " + OUT + " !", "key(MIN) " + OUT + " !",
            "key(MAX) " + OUT + " !", "poll(-1) -1 !", "poll(4) -1 !", "poll(MIN) -1 !", "poll(MAX) -1 !",
            "commit(-1, 0) false !", "commit(4, 0) false !", "commit(MIN, 0) false !", "commit(MAX, 0) false !",
            "commit(0, MIN) false !", "commit(0, MAX) false !", "position(-1) -1 !", "position(4) -1 !",
            "lag(-1) -1 !", "lag(4) -1 !", "latest(-1) -1 !", "latest(16) -1 !", "base(-1) -1 !", "base(MAX) -1 !");
    }
}
