/** The boundary cases that the promises 1 to 8 name, sentence by sentence. */
final class ChangesBoundariesTest {
    private static final String OUT = Runs.OUT;
    private static final String NO = Runs.NO;
    private static final Runs runs = new Runs();

    public static void main(String[] args) {
        newObject();
        appendRollsFiveAboveTheBase();
        appendRefusesKeys();
        appendRefusesTheSixtyFirst();
        appendNamesTheKeyFirst();
        removeRollsFiveAboveTheBase();
        removeRefusesKeys();
        removeRefusesTheSixtyFirst();
        flush();
        crashCountsWhatIsGone();
        crashTakesBasesFromEndOn();
        crashClosesTheOthers();
        crashOfAllSegments();
        crashLowersPositions();
        rollAtEnd();
        retainCountsTheOthers();
        retainGoesOn();
        retainLeavesTheActiveOne();
        retainOfCleanedSegments();
        retainMovesStart();
        retainRaisesDurable();
        retainRefuses();
        compactOfNothing();
        compactLeavesTheLatestThere();
        compactKnowsAllKeys();
        compactTakesOldRemovals();
        compactTakesRemovalsThatAreNotTheLatest();
        compactMovesNothing();
        compactOfAll();
        runs.end("ChangesBoundariesTest");
    }

    private static void newObject() {
        runs.sentence("Promise 1: As said at first, no records");
        runs.run("bounds() 0 0 0", "bases() 0", "positions() 0 0 0 0", "lags() 0 0 0 0", "records() none",
            "latests() -1 -1 -1 -1 -1 -1 -1 -1 -1 -1 -1 -1 -1 -1 -1 -1");
        runs.each(Runs.steps(), "append(0, 0) 0", "remove(0) 0", "flush() 0", "crash() 0", "roll() false", "retain(0) 0",
            "retain(1) 0", "retain(-1) -1", "compact() 0", "value(-1) " + OUT, "value(0) " + OUT, "value(1) " + OUT,
            "key(-1) " + OUT, "key(0) " + OUT, "key(1) " + OUT, "next(-1) -1", "next(0) -1", "poll(0) -1", "poll(3) -1",
            "commit(0, -1) false", "commit(0, 0) true", "commit(0, 1) false", "lag(0) 0", "latest(0) -1",
            "segments() 1", "base(-1) -1", "base(0) 0", "base(1) -1", "start() 0", "end() 0", "durable() 0");
        // These change nothing that can be seen on a new object.
        runs.each(Runs.steps(), "flush() 0 !", "crash() 0 !", "retain(0) 0 !", "compact() 0 !", "commit(0, 0) true !");
    }

    private static void appendRollsFiveAboveTheBase() {
        runs.sentence("Promise 2: Is the active segment's base 5 below END then, rolls");
        runs.run("3 * append(1, 1)", "append(1, 1) 3", "bases() 0", "append(1, 1) 4", "bases() 0 5", "append(1, 1) 5",
            "bases() 0 5", "3 * append(1, 1)", "bases() 0 5", "append(1, 1) 9", "bases() 0 5 10");
        runs.run("3 * append(1, 1)", "roll() true", "4 * append(1, 1)", "bases() 0 3", "append(1, 1) 7", "bases() 0 3 8",
            "append(1, 1) 8", "bases() 0 3 8");
        runs.run("3 * append(1, 1)", "flush() 3", "append(1, 1) 3", "crash() 1", "4 * append(1, 1)", "bases() 0 3",
            "append(1, 1) 7", "bases() 0 3 8");
        runs.run("7 * append(1, 1)", "retain(0) 5", "2 * append(1, 1)", "bases() 5", "append(1, 1) 9", "bases() 5 10");
        runs.run("8 * append(1, 1)", "flush() 8", "compact() 4", "append(1, 1) 8", "bases() 0 5", "append(1, 1) 9",
            "bases() 0 5 10");
        runs.run("2 * append(1, 1)", "2 * remove(1)", "append(1, 1) 4", "bases() 0 5");
    }

    private static void appendRefusesKeys() {
        runs.sentence("Promise 2: Refused: -1 if key is not 0 .. 15");
        runs.run("append(MIN, 1) -1 !", "append(-1, 1) -1 !", "append(0, 1) 0", "append(1, 1) 1", "append(14, 1) 2",
            "append(15, 1) 3", "append(16, 1) -1 !", "append(17, 1) -1 !", "append(MAX, 1) -1 !", "records() 0 1 2 3",
            "bases() 0");
        runs.run("5 * append(-1, 1) -1", "5 * append(16, 1) -1", "bases() 0", "bounds() 0 0 0");
    }

    private static void appendRefusesTheSixtyFirst() {
        runs.sentence("Promise 2: else -2 if there are 60 records");
        runs.run("58 * append(1, 1)", "append(1, 1) 58", "lag(0) 59", "append(1, 1) 59", "lag(0) 60",
            "append(1, 1) -2 !", "append(1, 1) -2 !", "bounds() 0 0 60",
            "bases() 0 5 10 15 20 25 30 35 40 45 50 55 60");
        runs.run("59 * append(1, 1)", "flush() 59", "append(1, 1) 59", "append(1, 1) -2", "crash() 1", "lag(0) 59",
            "append(1, 1) 59", "append(1, 1) -2 !");
        runs.run("60 * append(1, 1)", "retain(55) 5", "lag(0) 55", "4 * append(1, 1)", "append(1, 1) 64",
            "append(1, 1) -2 !");
        runs.run("60 * append(1, 1)", "flush() 60", "compact() 59", "58 * append(1, 1)", "append(1, 1) 118", "lag(0) 60",
            "append(1, 1) -2 !", "bounds() 0 60 119");
        runs.run("5 * append(1, 1)", "54 * append(2, 2)", "flush() 59", "append(3, 3) 59", "append(3, 3) -2",
            "retain(60) 0", "append(3, 3) -2 !");
    }

    private static void appendNamesTheKeyFirst() {
        runs.sentence("Promise 2: Refused: -1 if key is not 0 .. 15; else -2");
        runs.each(Runs.steps("60 * append(1, 1)"), "append(-1, 1) -1 !", "append(0, 1) -2 !", "append(15, 1) -2 !",
            "append(16, 1) -1 !", "append(MIN, 1) -1 !", "append(MAX, 1) -1 !");
    }

    private static void removeRollsFiveAboveTheBase() {
        runs.sentence("Promise 3: The same with a removal (rolls)");
        runs.run("3 * remove(1)", "remove(1) 3", "bases() 0", "remove(1) 4", "bases() 0 5", "remove(1) 5", "bases() 0 5",
            "3 * remove(2)", "bases() 0 5", "remove(2) 9", "bases() 0 5 10");
        runs.run("3 * append(1, 1)", "roll() true", "4 * append(1, 1)", "bases() 0 3", "remove(1) 7", "bases() 0 3 8");
        runs.run("3 * append(1, 1)", "flush() 3", "remove(1) 3", "crash() 1", "4 * remove(1)", "bases() 0 3",
            "remove(1) 7", "bases() 0 3 8");
    }

    private static void removeRefusesKeys() {
        runs.sentence("Promise 3: The same with a removal (-1)");
        runs.run("remove(MIN) -1 !", "remove(-1) -1 !", "remove(0) 0", "remove(1) 1", "remove(14) 2", "remove(15) 3",
            "remove(16) -1 !", "remove(17) -1 !", "remove(MAX) -1 !", "records() 0 1 2 3", "keys(0, 3) 16 17 30 31",
            "values(0, 3) 0 0 0 0", "bases() 0");
    }

    private static void removeRefusesTheSixtyFirst() {
        runs.sentence("Promise 3: The same with a removal (-2, and -1 before it)");
        runs.run("58 * remove(1)", "remove(1) 58", "lag(0) 59", "remove(1) 59", "lag(0) 60", "remove(1) -2 !",
            "append(1, 1) -2 !", "bounds() 0 0 60");
        runs.each(Runs.steps("60 * append(1, 1)"), "remove(-1) -1 !", "remove(0) -2 !", "remove(15) -2 !",
            "remove(16) -1 !", "remove(MIN) -1 !", "remove(MAX) -1 !");
        runs.run("59 * append(1, 1)", "flush() 59", "remove(1) 59", "remove(1) -2", "crash() 1", "remove(1) 59",
            "remove(1) -2 !");
    }

    private static void flush() {
        runs.sentence("Promise 4: DURABLE becomes END: how far it went up");
        runs.run("flush() 0", "append(1, 1) 0", "flush() 1", "bounds() 0 1 1", "flush() 0 !", "2 * append(1, 1)",
            "flush() 2", "bounds() 0 3 3", "bases() 0");
        runs.run("60 * append(1, 1)", "flush() 60", "bounds() 0 60 60");
        runs.run("append(1, 1) 0", "flush() 1", "append(1, 1) 1", "crash() 1", "flush() 0 !", "bounds() 0 1 1");
        runs.run("7 * append(1, 1)", "retain(0) 5", "flush() 2", "bounds() 5 7 7");
        runs.run("5 * append(1, 1)", "retain(0) 5", "flush() 0 !", "bounds() 5 5 5");
        runs.run("6 * append(1, 1)", "flush() 6", "compact() 4", "flush() 0 !", "append(1, 1) 6", "flush() 1");
    }

    private static void crashCountsWhatIsGone() {
        runs.sentence("Promise 5: The records at DURABLE and above are gone: how many. END becomes DURABLE");
        runs.run("2 * append(1, 1)", "flush() 2", "crash() 0", "records() 0 1", "bounds() 0 2 2");
        runs.run("2 * append(1, 1)", "flush() 2", "append(1, 1) 2", "crash() 1", "records() 0 1", "bounds() 0 2 2");
        runs.run("2 * append(1, 1)", "flush() 2", "append(1, 1) 2", "remove(1) 3", "crash() 2", "records() 0 1",
            "bounds() 0 2 2", "crash() 0 !");
        runs.run("60 * append(1, 1)", "crash() 60", "records() none", "bounds() 0 0 0", "append(2, 2) 0");
        runs.run("6 * append(1, 1)", "flush() 6", "compact() 4", "2 * append(1, 1)", "crash() 2", "records() 4 5",
            "bounds() 0 6 6");
        runs.run("7 * append(1, 1)", "flush() 7", "compact() 4", "retain(0) 1", "append(1, 1) 7", "crash() 1",
            "records() 5 6", "bounds() 5 7 7");
    }

    private static void crashTakesBasesFromEndOn() {
        runs.sentence("Promise 5: segments whose base is END or above are taken away");
        // END becomes 2; the active segment's base is 1, 2 and 3.
        runs.run("append(1, 1) 0", "roll() true", "append(1, 1) 1", "flush() 2", "append(1, 1) 2", "crash() 1",
            "bases() 0 1 2");
        runs.run("2 * append(1, 1)", "flush() 2", "roll() true", "append(1, 1) 2", "bases() 0 2", "crash() 1",
            "bases() 0 2");
        runs.run("2 * append(1, 1)", "flush() 2", "append(1, 1) 2", "roll() true", "append(1, 1) 3", "bases() 0 3",
            "crash() 2", "bases() 0 2");
        runs.run("2 * append(1, 1)", "roll() true", "flush() 2", "bases() 0 2", "crash() 0 !", "bases() 0 2");
        runs.run("6 * append(1, 1)", "flush() 6", "14 * append(1, 1)", "bases() 0 5 10 15 20", "crash() 14",
            "bases() 0 5 6");
        runs.run("5 * append(1, 1)", "flush() 5", "15 * append(1, 1)", "bases() 0 5 10 15 20", "crash() 15",
            "bases() 0 5");
        runs.run("4 * append(1, 1)", "flush() 4", "16 * append(1, 1)", "bases() 0 5 10 15 20", "crash() 16",
            "bases() 0 4");
    }

    private static void crashClosesTheOthers() {
        runs.sentence("Promise 5: the others are closed; a new active one with base END is put behind them");
        runs.run("2 * append(1, 1)", "flush() 2", "crash() 0", "bases() 0 2", "roll() false !", "retain(0) 2",
            "bases() 2", "bounds() 2 2 2");
        runs.run("2 * append(1, 1)", "flush() 2", "crash() 0", "append(1, 1) 2", "bases() 0 2", "roll() true",
            "bases() 0 2 3");
        runs.run("2 * append(1, 1)", "flush() 2", "crash() 0", "compact() 1", "records() 1");
    }

    private static void crashOfAllSegments() {
        runs.sentence("Promise 5: segments whose base is END or above are taken away (all of them)");
        runs.run("crash() 0", "bases() 0");
        runs.run("12 * append(1, 1)", "crash() 12", "bases() 0", "bounds() 0 0 0", "4 * append(1, 1)", "bases() 0",
            "append(1, 1) 4", "bases() 0 5");
        runs.run("7 * append(1, 1)", "retain(0) 5", "bounds() 5 5 7", "crash() 2", "bases() 5", "bounds() 5 5 5",
            "append(1, 1) 5", "records() 5");
        runs.run("12 * append(1, 1)", "retain(7) 5", "bases() 5 10", "crash() 7", "bases() 5", "bounds() 5 5 5");
    }

    private static void crashLowersPositions() {
        runs.sentence("Promise 5: Positions above END become END");
        runs.run("2 * append(1, 1)", "flush() 2", "2 * append(1, 1)", "commit(0, 1) true", "commit(1, 2) true",
            "commit(2, 3) true", "commit(3, 4) true", "crash() 2", "positions() 1 2 2 2", "lags() 1 0 0 0");
        runs.run("append(1, 1) 0", "flush() 1", "append(1, 1) 1", "poll(3) 0", "poll(3) 1", "positions() 0 0 0 2",
            "crash() 1", "positions() 0 0 0 1", "append(1, 1) 1", "poll(3) 1");
        runs.run("7 * append(1, 1)", "commit(0, 4) true", "commit(1, 5) true", "commit(2, 6) true", "retain(0) 5",
            "crash() 2", "positions() 4 5 5 0");
        runs.run("3 * append(1, 1)", "commit(0, 3) true", "crash() 3", "positions() 0 0 0 0");
    }

    private static void rollAtEnd() {
        runs.sentence("Promise 6: false, and nothing is done, if the active segment's base is END");
        runs.run("roll() false !", "append(1, 1) 0", "roll() true", "bases() 0 1", "roll() false !", "bases() 0 1");
        runs.run("4 * append(1, 1)", "roll() true", "bases() 0 4", "roll() false !");
        runs.run("5 * append(1, 1)", "bases() 0 5", "roll() false !", "append(1, 1) 5", "roll() true", "bases() 0 5 6");
        runs.run("2 * append(1, 1)", "flush() 2", "append(1, 1) 2", "crash() 1", "roll() false !", "append(1, 1) 2",
            "roll() true", "bases() 0 2 3");
        runs.run("5 * append(1, 1)", "retain(0) 5", "roll() false !", "remove(1) 5", "roll() true", "bases() 5 6");
        runs.run("3 * append(1, 1)", "crash() 3", "roll() false !");
    }

    private static void retainCountsTheOthers() {
        runs.sentence("Promise 7: As long as the first segment is closed and the others hold n records or more together");
        // The others hold 2 records.
        runs.run("7 * append(1, 1)", "retain(3) 0 !", "bases() 0 5", "bounds() 0 0 7");
        runs.run("7 * append(1, 1)", "retain(2) 5", "bases() 5", "records() 5 6");
        runs.run("7 * append(1, 1)", "retain(1) 5", "bases() 5", "records() 5 6");
        runs.run("7 * append(1, 1)", "retain(MAX) 0 !", "retain(2147483646) 0 !");
        // The others hold none.
        runs.run("5 * append(1, 1)", "retain(1) 0 !", "retain(0) 5", "bases() 5", "records() none");
    }

    private static void retainGoesOn() {
        runs.sentence("Promise 7: it is taken away with its records: how many records went");
        // Behind the first segment there are 12 records, behind the second 7, behind the third 2.
        String[] before = Runs.steps("17 * append(1, 1)", "bases() 0 5 10 15");
        runs.run(Runs.with(before, "retain(13) 0 !", "bases() 0 5 10 15"));
        runs.run(Runs.with(before, "retain(12) 5", "bases() 5 10 15"));
        runs.run(Runs.with(before, "retain(11) 5", "bases() 5 10 15"));
        runs.run(Runs.with(before, "retain(8) 5", "bases() 5 10 15"));
        runs.run(Runs.with(before, "retain(7) 10", "bases() 10 15"));
        runs.run(Runs.with(before, "retain(6) 10", "bases() 10 15"));
        runs.run(Runs.with(before, "retain(3) 10", "bases() 10 15"));
        runs.run(Runs.with(before, "retain(2) 15", "bases() 15"));
        runs.run(Runs.with(before, "retain(1) 15", "bases() 15"));
        runs.run(Runs.with(before, "retain(0) 15", "bases() 15", "records() 15 16", "retain(0) 0 !"));
        runs.run("append(1, 1) 0", "roll() true", "append(1, 1) 1", "retain(2) 0", "retain(1) 1", "records() 1");
    }

    private static void retainLeavesTheActiveOne() {
        runs.sentence("Promise 7: As long as the first segment is closed");
        runs.run("retain(0) 0 !", "bases() 0");
        runs.run("4 * append(1, 1)", "retain(0) 0 !", "retain(4) 0 !", "bases() 0", "records() 0 1 2 3");
        runs.run("5 * append(1, 1)", "retain(0) 5", "retain(0) 0 !", "bases() 5", "append(1, 1) 5", "retain(0) 0 !",
            "records() 5");
    }

    private static void retainOfCleanedSegments() {
        runs.sentence("Promise 7: the others hold n records or more together (segments that a cleaning has emptied)");
        String[] before = Runs.steps("10 * append(1, 1)", "append(2, 2) 10", "flush() 11", "compact() 9",
            "records() 9 10", "bases() 0 5 10");
        runs.run(Runs.with(before, "retain(3) 0 !", "bases() 0 5 10"));
        runs.run(Runs.with(before, "retain(2) 0", "bases() 5 10", "bounds() 5 11 11", "retain(2) 0 !"));
        runs.run(Runs.with(before, "retain(1) 1", "bases() 10", "records() 10"));
        runs.run("5 * remove(1)", "flush() 5", "compact() 4", "compact() 1", "bases() 0 5", "retain(1) 0 !",
            "retain(0) 0", "bases() 5", "bounds() 5 5 5");
    }

    private static void retainMovesStart() {
        runs.sentence("Promise 7: Then START becomes the first segment's base");
        runs.run("4 * append(1, 1)", "retain(0) 0", "start() 0");
        runs.run("5 * append(1, 1)", "retain(1) 0", "start() 0", "retain(0) 5", "start() 5");
        runs.run("append(1, 1) 0", "roll() true", "retain(0) 1", "bounds() 1 1 1", "value(0) " + OUT);
        runs.run("7 * append(1, 1)", "commit(0, 4) true", "commit(1, 5) true", "commit(2, 6) true", "retain(0) 5",
            "start() 5", "positions() 4 5 6 0", "lags() 2 2 1 2", "value(4) " + OUT, "value(5) 1");
    }

    private static void retainRaisesDurable() {
        runs.sentence("Promise 7: and DURABLE becomes START if it is below it");
        runs.run("4 * append(1, 1)", "flush() 4", "3 * append(1, 1)", "retain(0) 5", "bounds() 5 5 7", "crash() 2");
        runs.run("5 * append(1, 1)", "flush() 5", "2 * append(1, 1)", "retain(0) 5", "bounds() 5 5 7", "crash() 2");
        runs.run("6 * append(1, 1)", "flush() 6", "append(1, 1) 6", "retain(0) 5", "bounds() 5 6 7", "crash() 1");
        runs.run("7 * append(1, 1)", "retain(3) 0", "bounds() 0 0 7");
    }

    private static void retainRefuses() {
        runs.sentence("Promise 7: -1 if n is below 0");
        String[] before = Runs.steps("5 * append(1, 1)", "flush() 5", "7 * append(1, 1)");
        runs.each(before, "retain(-1) -1 !", "retain(-2) -1 !", "retain(MIN) -1 !", "retain(0) 10", "retain(1) 10");
        runs.run("retain(-1) -1 !", "retain(MIN) -1 !", "retain(0) 0", "retain(1) 0");
    }

    private static void compactOfNothing() {
        runs.sentence("Promise 8: of the records below THE POINT (there are none)");
        runs.run("compact() 0 !");
        runs.run("12 * append(1, 1)", "compact() 0 !");
        runs.run("4 * append(1, 1)", "flush() 4", "compact() 0 !", "records() 0 1 2 3");
        runs.run("2 * remove(1)", "flush() 2", "compact() 0 !", "compact() 0 !", "records() 0 1");
        runs.run("9 * append(1, 1)", "retain(0) 5", "flush() 4", "compact() 0 !", "records() 5 6 7 8");
    }

    private static void compactLeavesTheLatestThere() {
        runs.sentence("Promise 8: those go that are not the latest there of their key");
        runs.run("append(1, 1) 0", "roll() true", "flush() 1", "compact() 0", "records() 0");
        runs.run("2 * append(1, 1)", "roll() true", "flush() 2", "compact() 1", "records() 1");
        // The record at THE POINT is later, but not below it.
        runs.run("4 * append(1, 1)", "append(2, 2) 4", "append(1, 9) 5", "flush() 6", "compact() 3", "records() 3 4 5",
            "latest(1) 5");
        runs.run("3 * append(1, 1)", "roll() true", "remove(1) 3", "flush() 4", "compact() 2", "records() 2 3",
            "latest(1) -1");
        // One right below THE POINT is the latest there.
        runs.run("append(1, 1) 0", "append(2, 2) 1", "append(1, 3) 2", "roll() true", "flush() 3", "append(1, 4) 3",
            "compact() 1", "records() 1 2 3", "compact() 0");
        runs.run("append(1, 1) 0", "roll() true", "append(1, 2) 1", "flush() 2", "compact() 0", "roll() true",
            "compact() 1", "records() 1");
    }

    private static void compactKnowsAllKeys() {
        runs.sentence("Promise 8: the latest there of their key (keys 0 and 15 and their neighbours)");
        runs.run("append(0, 1) 0", "append(15, 2) 1", "append(1, 3) 2", "append(14, 4) 3", "append(0, 5) 4",
            "append(15, 6) 5", "append(1, 7) 6", "append(14, 8) 7", "roll() true", "flush() 8", "compact() 4",
            "records() 4 5 6 7", "values(4, 7) 5 6 7 8", "keys(4, 7) 0 15 1 14");
        // A key without a record there is not mistaken for one that a cleaning has seen before.
        runs.run("append(3, 1) 0", "append(4, 2) 1", "roll() true", "flush() 2", "compact() 0", "retain(0) 2",
            "append(4, 3) 2", "append(3, 4) 3", "roll() true", "flush() 2", "compact() 0", "records() 2 3");
    }

    private static void compactTakesOldRemovals() {
        runs.sentence("Promise 8: and removals that were left by a cleaning before");
        runs.run("remove(1) 0", "roll() true", "flush() 1", "compact() 0", "records() 0", "compact() 1", "records() none",
            "compact() 0 !");
        // The first cleaning leaves 4, right below THE POINT; 5, at THE POINT, it does not look at.
        runs.run("4 * append(1, 1)", "remove(2) 4", "remove(3) 5", "flush() 6", "compact() 3", "records() 3 4 5",
            "roll() true", "compact() 1", "records() 3 5", "compact() 1", "records() 3", "compact() 0 !");
        // A value that a cleaning left stays.
        runs.run("append(1, 0) 0", "roll() true", "flush() 1", "3 * compact() 0", "records() 0");
        // The removal's place in the rows is taken by records that no cleaning has left.
        runs.run("remove(1) 0", "remove(2) 1", "roll() true", "flush() 2", "compact() 0", "compact() 2",
            "remove(1) 2", "remove(2) 3", "roll() true", "flush() 2", "compact() 0", "records() 2 3", "compact() 2");
        runs.run("remove(1) 0", "roll() true", "flush() 1", "compact() 0", "retain(0) 1", "remove(1) 1", "roll() true",
            "flush() 1", "compact() 0", "compact() 1");
        // One that no cleaning has left moves up in the rows when older ones go.
        runs.run("remove(1) 0", "remove(2) 1", "roll() true", "flush() 2", "compact() 0", "remove(3) 2", "compact() 2",
            "records() 2", "roll() true", "flush() 1", "compact() 0", "records() 2", "compact() 1", "records() none");
        runs.run("append(1, 1) 0", "roll() true", "flush() 1", "compact() 0", "remove(2) 1", "roll() true", "retain(1) 1",
            "records() 1", "flush() 1", "compact() 0", "records() 1", "compact() 1", "records() none");
    }

    private static void compactTakesRemovalsThatAreNotTheLatest() {
        runs.sentence("Promise 8: those go that are not the latest there of their key, and removals (of one key)");
        runs.run("2 * remove(1)", "roll() true", "flush() 2", "compact() 1", "records() 1", "compact() 1",
            "records() none");
        runs.run("remove(1) 0", "append(1, 5) 1", "roll() true", "flush() 2", "compact() 1", "records() 1", "compact() 0",
            "values(0, 1) " + NO + " 5");
        runs.run("append(1, 5) 0", "remove(1) 1", "roll() true", "flush() 2", "compact() 1", "records() 1", "compact() 1",
            "records() none");
        // Left by a cleaning, and then not the latest: it went once.
        runs.run("remove(1) 0", "roll() true", "flush() 1", "compact() 0", "append(1, 5) 1", "roll() true", "flush() 1",
            "compact() 1", "records() 1", "compact() 0");
        runs.run("remove(1) 0", "roll() true", "flush() 1", "compact() 0", "remove(1) 1", "roll() true", "flush() 1",
            "compact() 1", "records() 1", "compact() 1", "records() none");
    }

    private static void compactMovesNothing() {
        runs.sentence("Promise 8: all others stay at their offsets, in their segments");
        runs.run("4 * append(1, 10)", "append(2, 20) 4", "append(3, 30) 5", "3 * append(1, 11)", "remove(4) 9",
            "append(5, 50) 10", "flush() 11", "commit(0, 2) true", "commit(1, 9) true", "compact() 6",
            "records() 4 5 8 9 10", "keys(4, 5) 2 3", "keys(8, 10) 1 20 5", "values(4, 5) 20 30", "values(8, 10) 11 0 50",
            "bases() 0 5 10", "bounds() 0 11 11", "positions() 2 9 0 0", "lags() 5 2 5 5", "retain(4) 1", "records() 5 8 9 10",
            "retain(1) 3", "records() 10");
        runs.run("2 * append(1, 1)", "roll() true", "2 * append(1, 2)", "roll() true", "flush() 4", "compact() 3",
            "records() 3", "bases() 0 2 4", "value(2) " + NO, "value(3) 2");
    }

    private static void compactOfAll() {
        runs.sentence("Promise 8: How many went");
        runs.run("60 * append(1, 1)", "flush() 60", "compact() 59", "records() 59");
        runs.run("59 * append(1, 1)", "remove(1) 59", "flush() 60", "compact() 59", "compact() 1", "records() none",
            "bounds() 0 60 60", "segments() 13");
        runs.run("append(0, 1)", "append(1, 1)", "append(2, 1)", "roll() true", "flush() 3", "compact() 0");
    }
}
