/** The boundary cases that the promises 9 to 21 name, sentence by sentence. */
final class ReadsBoundariesTest {
    private static final String OUT = Runs.OUT;
    private static final String NO = Runs.NO;
    private static final Runs runs = new Runs();

    /** Offsets 0 to 2 are holes, 3 and 4 are below THE POINT, which is 5; 5 and 6 are in the active segment. */
    private static final String[] HOLES_FIRST = Runs.steps("4 * append(1, 10)", "append(2, 20) 4", "append(3, 30) 5",
        "remove(15) 6", "flush() 7", "compact() 3", "records() 3 4 5 6");

    /** Offset 0 holds a record; 1 and 2 are holes, and END is 3. */
    private static final String[] HOLES_LAST = Runs.steps("append(1, 10) 0", "remove(2) 1", "remove(3) 2", "roll() true",
        "flush() 3", "compact() 0", "compact() 2", "records() 0", "bounds() 0 3 3");

    /** START is 5 and END is 8. */
    private static final String[] START_AT_FIVE = Runs.steps("5 * append(1, 10)", "append(2, 20) 5", "append(3, 30) 6",
        "remove(0) 7", "retain(0) 5", "bounds() 5 5 8");

    /** START and END are 5. */
    private static final String[] EMPTY_AT_FIVE = Runs.steps("5 * append(1, 10)", "retain(0) 5", "bounds() 5 5 5");

    public static void main(String[] args) {
        valueOfRemovals();
        valueOutOfBounds();
        valueOfHoles();
        keyOfRemovals();
        keyOutOfBounds();
        keyOfHoles();
        next();
        nextOfNone();
        poll();
        pollOfNone();
        pollOfNoGroup();
        commitOfNoGroup();
        commitOutOfBounds();
        positionOfNoGroup();
        lag();
        lagOfNoGroup();
        latest();
        latestOfNone();
        latestOfARemoval();
        latestOfNoKey();
        segments();
        baseOfNone();
        start();
        end();
        durable();
        readsChangeNothing();
        runs.end("ReadsBoundariesTest");
    }

    private static void valueOfRemovals() {
        runs.sentence("Promise 9: The value of the record at an offset, 0 for a removal");
        runs.run("append(1, -1) 0", "append(1, 0) 1", "append(1, 1) 2", "remove(1) 3", "append(1, MIN) 4",
            "append(1, MAX) 5", "values(0, 5) -1 0 1 0 MIN MAX");
    }

    private static void valueOutOfBounds() {
        runs.sentence("Promise 9: IndexOutOfBoundsException if offset is not START .. END - 1");
        runs.run("value(-1) " + OUT + " !", "value(0) " + OUT + " !", "value(1) " + OUT + " !");
        runs.run("append(1, 10) 0", "append(1, 11) 1", "value(MIN) " + OUT + " !", "value(-1) " + OUT + " !",
            "value(0) 10", "value(1) 11", "value(2) " + OUT + " !", "value(3) " + OUT + " !", "value(MAX) " + OUT + " !");
        runs.run(Runs.with(START_AT_FIVE, "value(0) " + OUT + " !", "value(4) " + OUT + " !", "value(5) 20", "value(6) 30",
            "value(7) 0", "value(8) " + OUT + " !", "value(9) " + OUT + " !"));
        runs.run(Runs.with(EMPTY_AT_FIVE, "value(4) " + OUT + " !", "value(5) " + OUT + " !", "value(6) " + OUT + " !"));
        runs.run("append(1, 10) 0", "flush() 1", "append(1, 11) 1", "append(1, 12) 2", "crash() 2", "value(0) 10",
            "value(1) " + OUT + " !", "value(2) " + OUT + " !");
    }

    private static void valueOfHoles() {
        runs.sentence("Promise 9: else NoSuchElementException if there is none");
        runs.run(Runs.with(HOLES_FIRST, "value(-1) " + OUT + " !", "value(0) " + NO + " !", "value(1) " + NO + " !",
            "value(2) " + NO + " !", "value(3) 10", "value(4) 20"));
        runs.run(Runs.with(HOLES_LAST, "value(0) 10", "value(1) " + NO + " !", "value(2) " + NO + " !",
            "value(3) " + OUT + " !"));
        // A hole that START has passed is out of bounds.
        runs.run(Runs.with(HOLES_FIRST, "retain(0) 2", "value(0) " + OUT + " !", "value(4) " + OUT + " !", "value(5) 30"));
        runs.run("remove(1) 0", "roll() true", "flush() 1", "2 * compact()", "records() none", "value(-1) " + OUT + " !",
            "value(0) " + NO + " !", "value(1) " + OUT + " !");
    }

    private static void keyOfRemovals() {
        runs.sentence("Promise 10: The key of the record at an offset, 16 more if it is a removal");
        runs.run("append(0, 1) 0", "remove(0) 1", "append(1, 1) 2", "remove(1) 3", "append(14, 1) 4", "remove(14) 5",
            "append(15, 1) 6", "remove(15) 7", "append(15, 0) 8", "keys(0, 8) 0 16 1 17 14 30 15 31 15");
    }

    private static void keyOutOfBounds() {
        runs.sentence("Promise 10: The exceptions of value (IndexOutOfBoundsException)");
        runs.run("key(-1) " + OUT + " !", "key(0) " + OUT + " !", "key(1) " + OUT + " !");
        runs.run("append(1, 10) 0", "append(2, 11) 1", "key(MIN) " + OUT + " !", "key(-1) " + OUT + " !", "key(0) 1",
            "key(1) 2", "key(2) " + OUT + " !", "key(3) " + OUT + " !", "key(MAX) " + OUT + " !");
        runs.run(Runs.with(START_AT_FIVE, "key(0) " + OUT + " !", "key(4) " + OUT + " !", "key(5) 2", "key(6) 3",
            "key(7) 16", "key(8) " + OUT + " !", "key(9) " + OUT + " !"));
        runs.run(Runs.with(EMPTY_AT_FIVE, "key(4) " + OUT + " !", "key(5) " + OUT + " !", "key(6) " + OUT + " !"));
        runs.run("append(1, 10) 0", "flush() 1", "append(2, 11) 1", "append(3, 12) 2", "crash() 2", "key(0) 1",
            "key(1) " + OUT + " !", "key(2) " + OUT + " !");
    }

    private static void keyOfHoles() {
        runs.sentence("Promise 10: The exceptions of value (NoSuchElementException)");
        runs.run(Runs.with(HOLES_FIRST, "key(-1) " + OUT + " !", "key(0) " + NO + " !", "key(1) " + NO + " !",
            "key(2) " + NO + " !", "key(3) 1", "key(4) 2"));
        runs.run(Runs.with(HOLES_LAST, "key(0) 1", "key(1) " + NO + " !", "key(2) " + NO + " !", "key(3) " + OUT + " !"));
        runs.run(Runs.with(HOLES_FIRST, "retain(0) 2", "key(0) " + OUT + " !", "key(4) " + OUT + " !", "key(5) 3"));
    }

    private static void next() {
        runs.sentence("Promise 11: The offset of the first record at this offset or above");
        runs.run("2 * append(1, 10)", "next(MIN) 0", "next(-1) 0", "next(0) 0", "next(1) 1");
        runs.run(Runs.with(HOLES_FIRST, "next(MIN) 3", "next(-1) 3", "next(0) 3", "next(1) 3", "next(2) 3", "next(3) 3",
            "next(4) 4", "next(5) 5", "next(6) 6"));
        runs.run(Runs.with(START_AT_FIVE, "next(MIN) 5", "next(-1) 5", "next(0) 5", "next(4) 5", "next(5) 5", "next(6) 6",
            "next(7) 7"));
    }

    private static void nextOfNone() {
        runs.sentence("Promise 11: -1 if there is none");
        runs.run("next(MIN) -1", "next(-1) -1", "next(0) -1", "next(1) -1", "next(MAX) -1");
        runs.run("2 * append(1, 10)", "next(1) 1", "next(2) -1", "next(3) -1", "next(MAX) -1");
        runs.run(Runs.with(HOLES_LAST, "next(0) 0", "next(1) -1", "next(2) -1", "next(3) -1", "next(4) -1"));
        runs.run(Runs.with(EMPTY_AT_FIVE, "next(MIN) -1", "next(4) -1", "next(5) -1", "next(6) -1"));
        runs.run("2 * append(1, 10)", "flush() 2", "append(1, 10) 2", "crash() 1", "next(1) 1", "next(2) -1");
    }

    private static void poll() {
        runs.sentence("Promise 12: The offset of the first record at the group's position or above, which is read");
        runs.run("2 * append(1, 10)", "poll(0) 0", "positions() 1 0 0 0", "poll(0) 1", "positions() 2 0 0 0",
            "poll(3) 0", "positions() 2 0 0 1");
        // The position is one below a record, at it, and one above it.
        runs.run(Runs.with(HOLES_FIRST, "commit(0, 2) true", "commit(1, 3) true", "commit(2, 4) true", "poll(0) 3",
            "poll(1) 3", "poll(2) 4", "poll(3) 3", "positions() 4 4 5 4"));
        runs.run(Runs.with(START_AT_FIVE, "positions() 0 0 0 0", "poll(0) 5", "positions() 6 0 0 0", "commit(1, 5) true",
            "poll(1) 5", "commit(2, 6) true", "poll(2) 6", "commit(3, 7) true", "poll(3) 7", "positions() 6 6 7 8"));
    }

    private static void pollOfNone() {
        runs.sentence("Promise 12: -1, and the position stays, if there is none");
        runs.run("poll(0) -1 !", "poll(3) -1 !", "positions() 0 0 0 0");
        runs.run("append(1, 10) 0", "poll(0) 0", "poll(0) -1 !", "poll(0) -1 !", "position(0) 1", "append(1, 11) 1",
            "poll(0) 1", "poll(0) -1 !", "position(0) 2");
        // The position is below END, but only holes are left there.
        runs.run(Runs.with(HOLES_LAST, "poll(0) 0", "poll(0) -1 !", "position(0) 1", "commit(1, 2) true", "poll(1) -1 !",
            "position(1) 2", "commit(2, 3) true", "poll(2) -1 !", "position(2) 3", "append(1, 11) 3", "poll(0) 3",
            "poll(1) 3", "poll(2) 3", "positions() 4 4 4 0"));
        // The position is below START.
        runs.run(Runs.with(EMPTY_AT_FIVE, "poll(0) -1 !", "positions() 0 0 0 0"));
    }

    private static void pollOfNoGroup() {
        runs.sentence("Promise 12: -1, and the position stays, if there is .. no such group");
        runs.each(Runs.steps("2 * append(1, 10)"), "poll(MIN) -1 !", "poll(-1) -1 !", "poll(0) 0", "poll(1) 0",
            "poll(2) 0", "poll(3) 0", "poll(4) -1 !", "poll(5) -1 !", "poll(MAX) -1 !");
    }

    private static void commitOfNoGroup() {
        runs.sentence("Promise 13: false if there is no such group");
        runs.each(Runs.steps("2 * append(1, 10)"), "commit(MIN, 1) false !", "commit(-1, 1) false !",
            "commit(0, 1) true", "commit(1, 1) true", "commit(2, 1) true", "commit(3, 1) true", "commit(4, 1) false !",
            "commit(5, 1) false !", "commit(MAX, 1) false !", "commit(-1, -1) false !", "commit(4, 3) false !");
        runs.run("2 * append(1, 10)", "commit(0, 1) true", "positions() 1 0 0 0", "commit(3, 2) true",
            "positions() 1 0 0 2");
    }

    private static void commitOutOfBounds() {
        runs.sentence("Promise 13: false if .. offset is not START .. END");
        runs.run("commit(0, -1) false !", "commit(0, 0) true", "commit(0, 1) false !");
        runs.run("2 * append(1, 10)", "commit(1, MIN) false !", "commit(1, -1) false !", "commit(1, 0) true",
            "commit(1, 1) true", "commit(1, 2) true", "position(1) 2", "commit(1, 3) false !", "commit(1, MAX) false !",
            "position(1) 2", "commit(1, 0) true", "position(1) 0");
        runs.run(Runs.with(START_AT_FIVE, "commit(1, 0) false !", "commit(1, 4) false !", "commit(1, 5) true",
            "position(1) 5", "commit(1, 7) true", "commit(1, 8) true", "position(1) 8", "commit(1, 9) false !",
            "commit(1, 4) false !", "position(1) 8"));
        runs.run(Runs.with(EMPTY_AT_FIVE, "commit(2, 4) false !", "commit(2, 5) true", "commit(2, 6) false !",
            "position(2) 5"));
        // Holes may be committed too, and what a crash has lost may not.
        runs.run(Runs.with(HOLES_FIRST, "commit(3, 0) true", "commit(3, 2) true", "position(3) 2"));
        runs.run("append(1, 10) 0", "flush() 1", "append(1, 11) 1", "commit(0, 2) true", "crash() 1",
            "commit(0, 2) false !", "commit(0, 1) true");
    }

    private static void positionOfNoGroup() {
        runs.sentence("Promise 14: -1 if there is no such group");
        runs.run("4 * append(1, 10)", "commit(0, 1) true", "commit(1, 2) true", "commit(2, 3) true", "commit(3, 4) true",
            "position(MIN) -1 !", "position(-1) -1 !", "position(0) 1", "position(1) 2", "position(2) 3", "position(3) 4",
            "position(4) -1 !", "position(5) -1 !", "position(MAX) -1 !");
    }

    private static void lag() {
        runs.sentence("Promise 15: How many records there are at the group's position and above");
        runs.run("lags() 0 0 0 0", "append(1, 10) 0", "lags() 1 1 1 1", "poll(0) 0", "lags() 0 1 1 1");
        runs.run("60 * append(1, 10)", "lag(0) 60", "commit(0, 59) true", "lag(0) 1", "commit(0, 60) true", "lag(0) 0",
            "commit(0, 1) true", "lag(0) 59");
        // The position is one below a record, at it, and one above it.
        runs.run(Runs.with(HOLES_FIRST, "commit(0, 2) true", "commit(1, 3) true", "commit(2, 4) true", "lags() 4 4 3 4"));
        runs.run(Runs.with(HOLES_LAST, "commit(0, 1) true", "commit(1, 2) true", "commit(2, 3) true", "lags() 0 0 0 1"));
        runs.run(Runs.with(START_AT_FIVE, "lags() 3 3 3 3", "commit(0, 5) true", "commit(1, 6) true", "commit(2, 7) true",
            "commit(3, 8) true", "lags() 3 2 1 0"));
    }

    private static void lagOfNoGroup() {
        runs.sentence("Promise 15: -1 if there is no such group");
        runs.each(Runs.steps("2 * append(1, 10)"), "lag(MIN) -1 !", "lag(-1) -1 !", "lag(0) 2", "lag(1) 2", "lag(2) 2",
            "lag(3) 2", "lag(4) -1 !", "lag(5) -1 !", "lag(MAX) -1 !");
    }

    private static void latest() {
        runs.sentence("Promise 16: The offset of the latest record of a key");
        runs.run("append(0, 1) 0", "latest(0) 0", "append(15, 1) 1", "append(0, 1) 2", "latest(0) 2", "latest(15) 1");
        runs.run("append(1, 1) 0", "flush() 1", "append(1, 2) 1", "latest(1) 1", "crash() 1", "latest(1) 0");
        runs.run(Runs.with(HOLES_FIRST, "latests() -1 3 4 5 -1 -1 -1 -1 -1 -1 -1 -1 -1 -1 -1 -1"));
    }

    private static void latestOfNone() {
        runs.sentence("Promise 16: -1 if there is none");
        runs.run("latest(0) -1", "latest(15) -1", "append(1, 1) 0", "latest(0) -1", "latest(1) 0", "latest(2) -1");
        runs.run("append(1, 1) 0", "crash() 1", "latest(1) -1");
        runs.run("append(1, 1) 0", "roll() true", "append(2, 2) 1", "retain(0) 1", "latest(1) -1", "latest(2) 1");
        runs.run(Runs.with(HOLES_LAST, "latest(1) 0", "latest(2) -1", "latest(3) -1"));
    }

    private static void latestOfARemoval() {
        runs.sentence("Promise 16: -1 if .. it is a removal");
        runs.run("append(1, 1) 0", "latest(1) 0", "remove(1) 1", "latest(1) -1", "append(1, 0) 2", "latest(1) 2");
        runs.run("remove(1) 0", "latest(1) -1", "remove(0) 1", "latest(0) -1", "remove(15) 2", "latest(15) -1");
        runs.run("append(1, 1) 0", "flush() 1", "remove(1) 1", "latest(1) -1", "crash() 1", "latest(1) 0");
        runs.run("append(1, 1) 0", "remove(1) 1", "roll() true", "flush() 2", "compact() 1", "latest(1) -1",
            "compact() 1", "latest(1) -1");
    }

    private static void latestOfNoKey() {
        runs.sentence("Promise 16: -1 if .. there is no such key");
        runs.run("append(0, 1) 0", "append(15, 1) 1", "remove(1) 2", "latest(MIN) -1 !", "latest(-1) -1 !", "latest(0) 0",
            "latest(15) 1", "latest(16) -1 !", "latest(17) -1 !", "latest(31) -1 !", "latest(MAX) -1 !");
        runs.run("latest(-1) -1 !", "latest(0) -1", "latest(15) -1", "latest(16) -1 !");
    }

    private static void segments() {
        runs.sentence("Promise 17: How many segments there are");
        runs.run("segments() 1", "4 * append(1, 10)", "segments() 1", "append(1, 10) 4", "segments() 2", "roll() false",
            "segments() 2", "append(1, 10) 5", "roll() true", "segments() 3", "flush() 6", "compact() 5", "segments() 3",
            "append(1, 10) 6", "crash() 1", "segments() 3", "retain(1) 0", "segments() 2", "retain(0) 1", "segments() 1",
            "retain(0) 0", "segments() 1");
        runs.run("60 * append(1, 10)", "segments() 13", "append(1, 10) -2", "segments() 13", "crash() 60", "segments() 1");
    }

    private static void baseOfNone() {
        runs.sentence("Promise 18: The base of the k-th segment (0 the first); -1 if there is none");
        runs.run("base(MIN) -1 !", "base(-1) -1 !", "base(0) 0", "base(1) -1 !", "base(2) -1 !", "base(MAX) -1 !");
        runs.run("12 * append(1, 10)", "base(-1) -1 !", "base(0) 0", "base(1) 5", "base(2) 10", "base(3) -1 !",
            "base(4) -1 !");
        runs.run("12 * append(1, 10)", "retain(7) 5", "base(-1) -1 !", "base(0) 5", "base(1) 10", "base(2) -1 !");
        runs.run("12 * append(1, 10)", "crash() 12", "base(0) 0", "base(1) -1 !", "base(2) -1 !");
        runs.run("60 * append(1, 10)", "base(12) 60", "base(13) -1 !");
    }

    private static void start() {
        runs.sentence("Promise 19: START");
        runs.run("start() 0", "5 * append(1, 10)", "start() 0", "flush() 5", "compact() 4", "start() 0", "crash() 0",
            "start() 0", "retain(1) 0", "start() 0", "retain(0) 1", "start() 5", "append(1, 10) 5", "start() 5",
            "crash() 1", "start() 5");
    }

    private static void end() {
        runs.sentence("Promise 20: END");
        runs.run("end() 0", "append(1, 10) 0", "end() 1", "remove(1) 1", "end() 2", "append(16, 1) -1", "end() 2",
            "roll() true", "end() 2", "flush() 2", "end() 2", "compact() 1", "end() 2", "compact() 1", "end() 2",
            "append(1, 10) 2", "end() 3", "crash() 1", "end() 2", "retain(0) 0", "end() 2");
        runs.run("60 * append(1, 10)", "end() 60", "append(1, 10) -2", "end() 60", "retain(0) 60", "end() 60",
            "append(1, 10) 60", "end() 61");
    }

    private static void durable() {
        runs.sentence("Promise 21: DURABLE");
        runs.run("durable() 0", "append(1, 10) 0", "durable() 0", "roll() true", "durable() 0", "flush() 1", "durable() 1",
            "append(1, 10) 1", "durable() 1", "compact() 0", "durable() 1", "crash() 1", "durable() 1", "retain(0) 1",
            "durable() 1");
    }

    private static void readsChangeNothing() {
        runs.sentence("Promises 9 to 11 and 14 to 21: a read changes nothing");
        for (String[] before : new String[][] {HOLES_FIRST, HOLES_LAST, START_AT_FIVE, EMPTY_AT_FIVE}) {
            runs.each(before, "value(0) !", "value(5) !", "key(0) !", "key(5) !", "next(0) !", "next(5) !",
                "position(0) !", "lag(0) !", "latest(1) !", "latest(2) !", "segments() !", "base(0) !", "base(1) !",
                "start() !", "end() !", "durable() !");
        }
    }
}
