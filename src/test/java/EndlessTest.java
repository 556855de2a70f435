/** The longest runs that count, and calls far beyond them, whose answers are free but which must not throw. */
final class EndlessTest {
    private static final int CALLS = 512;
    private static final Check check = new Check();

    public static void main(String[] args) {
        mostSegments();
        mostOffsets();
        beyondTheLastCall();
        callsWithoutEnd();
        check.end("EndlessTest");
    }

    /** As many segments as 512 calls can open: a record and a roll each, and a cleaning when the log is full. */
    private static void mostSegments() {
        SegmentLog log = new SegmentLog();
        int calls = 0;
        int opened = 0;
        while (calls + 6 <= CALLS) {
            if (opened > 0 && opened % 59 == 0) {
                check.due("flush()", log.flush(), 59);
                check.due("compact()", log.compact(), opened == 59 ? 58 : 59);
                calls += 2;
            }
            check.due("append(3, 7)", log.append(3, 7), opened);
            check.due("roll()", log.roll(), true);
            opened++;
            calls += 2;
        }
        check.due("segments()", log.segments(), opened + 1);
        check.due("base(opened)", log.base(opened), opened);
    }

    private static void mostOffsets() {
        SegmentLog log = new SegmentLog();
        int appended = 0;
        int held = 0;
        for (int calls = 0; calls < CALLS - 1; calls++) {
            if (held == 60) {
                check.due("retain(0)", log.retain(0), 60);
                held = 0;
            } else {
                check.due("append(0, 1)", log.append(0, 1), appended);
                appended++;
                held++;
            }
        }
        check.due("end()", log.end(), appended);
    }

    /** Rolls until no room for a segment is left, then goes on with each call. */
    private static void beyondTheLastCall() {
        SegmentLog log = new SegmentLog();
        for (int i = 0; i < 3000; i++) {
            log.append(i % 16, i);
            log.roll();
            log.flush();
            log.compact();
        }
        for (int seed = 0; seed < 20; seed++) {
            mixedCalls(log, new CallMaker(seed), 500);
        }
        for (int i = 0; i < 3000; i++) {
            log.append(i % 16, i);
            log.crash();
        }
        log.retain(0);
        check.due("segments()", log.segments(), 1);
    }

    private static void callsWithoutEnd() {
        for (int seed = 0; seed < 200; seed++) {
            mixedCalls(new SegmentLog(), new CallMaker(seed), 5000);
        }
    }

    private static void mixedCalls(SegmentLog log, CallMaker maker, int calls) {
        for (int i = 0; i < calls; i++) {
            Call call = maker.call(log.end());
            String answer = call.on(log);
            boolean reads = call.name.equals("value") || call.name.equals("key");
            boolean named = reads && (answer.equals(Check.OUT_OF_BOUNDS) || answer.equals(Check.NO_ELEMENT));
            check.due(call + " throws what is not named", answer.startsWith("throws.") && !named, false);
        }
    }
}
