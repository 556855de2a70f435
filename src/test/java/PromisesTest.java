/** Each promise by itself: ordinary inputs, the edges that the document names, and wrong inputs. */
final class PromisesTest {
    private static final int MIN = Integer.MIN_VALUE;
    private static final int MAX = Integer.MAX_VALUE;
    private static final Check check = new Check();

    public static void main(String[] args) {
        newObject();
        append();
        appendRollsAtFive();
        appendRefuses();
        appendCountsRecordsThatAreThere();
        remove();
        removeRollsAndRefuses();
        flush();
        crash();
        crashTakesSegmentsAway();
        crashBringsPositionsDown();
        crashWithNothingToLose();
        crashGivesOffsetsAgain();
        roll();
        retain();
        retainTakesSeveralSegments();
        retainRaisesDurable();
        retainCountsRecordsNotOffsets();
        retainLeavesPositions();
        compactLeavesTheLatest();
        compactStopsAtThePoint();
        compactAtABaseThatIsDurable();
        compactAndRemovals();
        compactForgetsRemovalsThatACrashLost();
        compactTellsNewRemovalsFromOld();
        compactKeepsSegmentsAndOffsets();
        value();
        key();
        next();
        poll();
        commit();
        position();
        lag();
        latest();
        segmentsAndBase();
        startEndDurable();
        check.end("PromisesTest");
    }

    private static SegmentLog filled(int records) {
        SegmentLog log = new SegmentLog();
        fill(log, records);
        return log;
    }

    /** Appends records whose key is their offset's rest by 16 and whose value is ten times their offset. */
    private static void fill(SegmentLog log, int records) {
        for (int i = 0; i < records; i++) {
            int offset = log.end();
            check.due("append to fill", log.append(offset % 16, offset * 10), offset);
        }
    }

    private static void newObject() {
        SegmentLog log = new SegmentLog();
        check.bounds(log, 0, 0, 0);
        check.bases(log, 0);
        check.positions(log, 0, 0, 0, 0, -1);
        check.records(log);
        for (int key = 0; key < 16; key++) {
            check.due("latest(" + key + ")", log.latest(key), -1);
        }
    }

    private static void append() {
        SegmentLog log = new SegmentLog();
        check.due("append(0, MIN)", log.append(0, MIN), 0);
        check.due("append(15, MAX)", log.append(15, MAX), 1);
        check.due("append(7, -1)", log.append(7, -1), 2);
        check.due("append(7, 0)", log.append(7, 0), 3);
        check.keys(log, 0, "0", "15", "7", "7");
        check.values(log, 0, "" + MIN, "" + MAX, "-1", "0");
        check.bounds(log, 0, 0, 4);
    }

    private static void appendRollsAtFive() {
        SegmentLog log = filled(4);
        check.bases(log, 0);
        fill(log, 1);
        check.bases(log, 0, 5);
        fill(log, 2);
        log.roll();
        check.bases(log, 0, 5, 7);
        fill(log, 4);
        check.bases(log, 0, 5, 7);
        fill(log, 1);
        check.bases(log, 0, 5, 7, 12);
    }

    private static void appendRefuses() {
        SegmentLog log = new SegmentLog();
        int[] wrong = {-1, 16, 31, MIN, MAX};
        for (int key : wrong) {
            check.due("append(" + key + ", 1)", log.append(key, 1), -1);
        }
        check.bounds(log, 0, 0, 0);
        fill(log, 60);
        check.due("append(3, 1), full", log.append(3, 1), -2);
        check.due("append(-1, 1), full", log.append(-1, 1), -1);
        check.due("append(16, 1), full", log.append(16, 1), -1);
        check.bounds(log, 0, 0, 60);
        check.bases(log, 0, 5, 10, 15, 20, 25, 30, 35, 40, 45, 50, 55, 60);
        check.due("next(60)", log.next(60), -1);
        check.due("latest(3)", log.latest(3), 51);
    }

    private static void appendCountsRecordsThatAreThere() {
        SegmentLog log = filled(60);
        check.due("retain(55)", log.retain(55), 5);
        fill(log, 5);
        check.due("append(1, 1)", log.append(1, 1), -2);
        check.due("flush()", log.flush(), 60);
        check.due("compact()", log.compact(), 44);
        fill(log, 44);
        check.due("append(1, 1)", log.append(1, 1), -2);
        check.due("crash()", log.crash(), 44);
        fill(log, 44);
        check.due("append(1, 1)", log.append(1, 1), -2);
        check.bounds(log, 5, 65, 109);
    }

    private static void remove() {
        SegmentLog log = new SegmentLog();
        check.due("append(0, 9)", log.append(0, 9), 0);
        check.due("remove(0)", log.remove(0), 1);
        check.due("remove(15)", log.remove(15), 2);
        check.keys(log, 0, "0", "16", "31");
        check.values(log, 0, "9", "0", "0");
        check.due("latest(0)", log.latest(0), -1);
        check.bounds(log, 0, 0, 3);
        check.due("lag(0)", log.lag(0), 3);
    }

    private static void removeRollsAndRefuses() {
        SegmentLog log = filled(4);
        check.due("remove(1)", log.remove(1), 4);
        check.bases(log, 0, 5);
        int[] wrong = {-1, 16, MIN, MAX};
        for (int key : wrong) {
            check.due("remove(" + key + ")", log.remove(key), -1);
        }
        check.bounds(log, 0, 0, 5);
        fill(log, 54);
        check.due("remove(2)", log.remove(2), 59);
        check.due("remove(2), full", log.remove(2), -2);
        check.due("remove(16), full", log.remove(16), -1);
        check.bounds(log, 0, 0, 60);
    }

    private static void flush() {
        SegmentLog log = new SegmentLog();
        check.due("flush()", log.flush(), 0);
        fill(log, 3);
        check.due("flush()", log.flush(), 3);
        check.bounds(log, 0, 3, 3);
        check.due("flush()", log.flush(), 0);
        fill(log, 4);
        check.due("flush()", log.flush(), 4);
        check.bounds(log, 0, 7, 7);
        check.bases(log, 0, 5);
    }

    private static void crash() {
        SegmentLog log = filled(3);
        log.flush();
        fill(log, 1);
        check.due("crash()", log.crash(), 1);
        check.bounds(log, 0, 3, 3);
        check.records(log, 0, 1, 2);
        check.bases(log, 0, 3);
        check.due("latest(3)", log.latest(3), -1);
        check.values(log, 2, "20", Check.OUT_OF_BOUNDS);
    }

    private static void crashTakesSegmentsAway() {
        SegmentLog log = filled(7);
        log.flush();
        fill(log, 13);
        check.bases(log, 0, 5, 10, 15, 20);
        check.due("crash()", log.crash(), 13);
        check.bases(log, 0, 5, 7);
        check.bounds(log, 0, 7, 7);
        fill(log, 3);
        log.flush();
        fill(log, 2);
        check.bases(log, 0, 5, 7, 12);
        check.due("crash()", log.crash(), 2);
        check.bases(log, 0, 5, 7, 10);

        SegmentLog lost = filled(12);
        check.due("crash(), nothing durable", lost.crash(), 12);
        check.bases(lost, 0);
        check.bounds(lost, 0, 0, 0);
        check.records(lost);
    }

    private static void crashBringsPositionsDown() {
        SegmentLog log = filled(4);
        log.flush();
        fill(log, 4);
        log.commit(0, 3);
        log.commit(1, 4);
        log.commit(2, 5);
        log.commit(3, 8);
        check.due("crash()", log.crash(), 4);
        check.positions(log, 3, 4, 4, 4);
    }

    private static void crashWithNothingToLose() {
        SegmentLog log = filled(5);
        log.flush();
        check.due("crash()", log.crash(), 0);
        check.bases(log, 0, 5);
        fill(log, 2);
        log.flush();
        check.due("crash(), the active segment holds records", log.crash(), 0);
        check.bases(log, 0, 5, 7);
        check.due("crash(), again", log.crash(), 0);
        check.bases(log, 0, 5, 7);
        check.due("roll() behind a crash", log.roll(), false);
    }

    private static void crashGivesOffsetsAgain() {
        SegmentLog log = filled(2);
        log.flush();
        log.append(9, 1);
        log.crash();
        check.due("remove(8)", log.remove(8), 2);
        check.keys(log, 2, "24");
        check.due("latest(9)", log.latest(9), -1);
    }

    private static void roll() {
        SegmentLog log = new SegmentLog();
        check.due("roll() of an empty log", log.roll(), false);
        check.bases(log, 0);
        fill(log, 1);
        check.due("roll()", log.roll(), true);
        check.bases(log, 0, 1);
        check.due("roll() again", log.roll(), false);
        check.bases(log, 0, 1);
        fill(log, 5);
        check.due("roll() behind a full segment", log.roll(), false);
        check.bases(log, 0, 1, 6);
        check.bounds(log, 0, 0, 6);
    }

    private static void retain() {
        SegmentLog log = filled(7);
        log.flush();
        check.due("retain(-1)", log.retain(-1), -1);
        check.due("retain(MIN)", log.retain(MIN), -1);
        check.due("retain(MAX)", log.retain(MAX), 0);
        check.due("retain(3)", log.retain(3), 0);
        check.bases(log, 0, 5);
        check.bounds(log, 0, 7, 7);
        check.due("retain(2)", log.retain(2), 5);
        check.bases(log, 5);
        check.bounds(log, 5, 7, 7);
        check.records(log, 5, 6);
        check.values(log, 4, Check.OUT_OF_BOUNDS, "50", "60", Check.OUT_OF_BOUNDS);
        check.due("retain(0), the active one stays", log.retain(0), 0);
        check.bases(log, 5);
    }

    private static void retainTakesSeveralSegments() {
        SegmentLog log = filled(18);
        check.due("retain(4)", log.retain(4), 10);
        check.bases(log, 10, 15);
        check.bounds(log, 10, 10, 18);
        check.due("retain(0)", log.retain(0), 5);
        check.bases(log, 15);
        check.records(log, 15, 16, 17);

        SegmentLog closed = filled(10);
        check.due("retain(1), the active one is empty", closed.retain(1), 5);
        check.bases(closed, 5, 10);
        check.due("retain(0), the active one is empty", closed.retain(0), 5);
        check.bases(closed, 10);
        check.bounds(closed, 10, 10, 10);
        check.records(closed);
        check.due("append behind it", closed.append(1, 1), 10);
    }

    private static void retainRaisesDurable() {
        SegmentLog below = filled(3);
        below.flush();
        fill(below, 4);
        below.retain(0);
        check.bounds(below, 5, 5, 7);
        check.due("crash()", below.crash(), 2);
        check.bounds(below, 5, 5, 5);
        check.bases(below, 5);

        SegmentLog above = filled(6);
        above.flush();
        fill(above, 1);
        above.retain(0);
        check.bounds(above, 5, 6, 7);
    }

    private static void retainCountsRecordsNotOffsets() {
        SegmentLog log = new SegmentLog();
        for (int i = 0; i < 10; i++) {
            log.append(1, i);
        }
        log.append(2, 0);
        log.flush();
        check.due("compact()", log.compact(), 9);
        check.records(log, 9, 10);
        check.bases(log, 0, 5, 10);
        check.due("retain(3)", log.retain(3), 0);
        check.bases(log, 0, 5, 10);
        check.due("retain(2) takes an empty segment", log.retain(2), 0);
        check.bases(log, 5, 10);
        check.bounds(log, 5, 11, 11);
        check.due("retain(1)", log.retain(1), 1);
        check.bases(log, 10);
    }

    private static void retainLeavesPositions() {
        SegmentLog log = filled(7);
        log.commit(1, 3);
        log.commit(2, 6);
        log.retain(0);
        check.positions(log, 0, 3, 6, 0);
        check.due("lag(1)", log.lag(1), 2);
        check.due("poll(1)", log.poll(1), 5);
        check.positions(log, 0, 6, 6, 0);
    }

    private static void compactLeavesTheLatest() {
        SegmentLog log = new SegmentLog();
        int[] keys = {1, 2, 1, 15, 1, 0, 15, 0, 2, 3};
        for (int i = 0; i < keys.length; i++) {
            log.append(keys[i], 100 + i);
        }
        log.flush();
        check.due("compact()", log.compact(), 5);
        check.records(log, 4, 6, 7, 8, 9);
        check.keys(log, 4, "1", Check.NO_ELEMENT, "15", "0", "2", "3");
        check.values(log, 4, "104", Check.NO_ELEMENT, "106", "107", "108", "109");
        check.due("compact() again", log.compact(), 0);
        check.records(log, 4, 6, 7, 8, 9);
    }

    private static void compactStopsAtThePoint() {
        SegmentLog log = new SegmentLog();
        for (int i = 0; i < 8; i++) {
            log.append(4, i);
        }
        check.due("compact(), nothing durable", log.compact(), 0);
        log.flush();
        for (int i = 8; i < 14; i++) {
            log.append(4, i);
        }
        check.bases(log, 0, 5, 10);
        check.due("compact(), durable amid the second segment", log.compact(), 4);
        check.records(log, 4, 5, 6, 7, 8, 9, 10, 11, 12, 13);
        log.flush();
        check.due("compact(), the active one holds records", log.compact(), 5);
        check.records(log, 9, 10, 11, 12, 13);
        log.roll();
        check.due("compact(), durable at the active one's base", log.compact(), 4);
        check.records(log, 13);
    }

    private static void compactAtABaseThatIsDurable() {
        SegmentLog log = new SegmentLog();
        for (int i = 0; i < 5; i++) {
            log.append(6, i);
        }
        log.flush();
        log.append(6, 5);
        check.due("compact()", log.compact(), 4);
        check.records(log, 4, 5);
        check.due("latest(6)", log.latest(6), 5);

        SegmentLog early = new SegmentLog();
        for (int i = 0; i < 4; i++) {
            early.append(6, i);
        }
        early.flush();
        early.append(6, 4);
        check.due("compact(), durable one below the base", early.compact(), 0);
    }

    private static void compactAndRemovals() {
        SegmentLog log = new SegmentLog();
        log.append(1, 10);
        log.append(2, 20);
        log.remove(1);
        log.roll();
        log.remove(2);
        log.flush();
        check.due("compact()", log.compact(), 1);
        check.records(log, 1, 2, 3);
        check.keys(log, 2, "17", "18");
        log.roll();
        check.due("compact(): removal 2 was left before, 3 was above the point", log.compact(), 2);
        check.records(log, 3);
        check.due("compact(): removal 3 was left before", log.compact(), 1);
        check.records(log);
        check.due("compact()", log.compact(), 0);
        check.bases(log, 0, 3, 4);

        SegmentLog undone = new SegmentLog();
        undone.remove(5);
        undone.remove(5);
        undone.append(5, 1);
        undone.remove(6);
        undone.roll();
        undone.flush();
        check.due("compact(): removals that are not the latest", undone.compact(), 2);
        check.keys(undone, 2, "5", "22");
        check.due("compact(): the value stays", undone.compact(), 1);
        check.records(undone, 2);
        check.due("compact()", undone.compact(), 0);
    }

    private static void compactForgetsRemovalsThatACrashLost() {
        SegmentLog log = new SegmentLog();
        log.remove(1);
        log.roll();
        log.flush();
        log.compact();
        log.remove(2);
        log.crash();
        log.remove(3);
        log.roll();
        log.flush();
        check.due("compact()", log.compact(), 1);
        check.keys(log, 1, "19");
        check.due("compact()", log.compact(), 1);
        check.records(log);
    }

    private static void compactTellsNewRemovalsFromOld() {
        SegmentLog again = new SegmentLog();
        for (int i = 0; i < 3; i++) {
            again.remove(1);
            again.roll();
            again.flush();
            check.due("compact() leaves the new removal", again.compact(), 0);
            check.due("compact() takes the old removal", again.compact(), 1);
        }

        SegmentLog moved = new SegmentLog();
        moved.append(1, 1);
        moved.roll();
        moved.flush();
        moved.compact();
        moved.remove(2);
        moved.roll();
        moved.flush();
        check.due("retain(1)", moved.retain(1), 1);
        check.due("compact(), the removal is new", moved.compact(), 0);
        check.due("compact(), the removal is old", moved.compact(), 1);
    }

    private static void compactKeepsSegmentsAndOffsets() {
        SegmentLog log = new SegmentLog();
        for (int i = 0; i < 11; i++) {
            log.append(i == 2 ? 9 : 1, i);
        }
        log.commit(0, 1);
        log.flush();
        check.due("compact()", log.compact(), 8);
        check.bounds(log, 0, 11, 11);
        check.bases(log, 0, 5, 10);
        check.positions(log, 1, 0, 0, 0);
        check.records(log, 2, 9, 10);
        check.due("lag(0)", log.lag(0), 3);
        check.due("append(1, 1)", log.append(1, 1), 11);
    }

    private static void value() {
        SegmentLog log = new SegmentLog();
        check.values(log, -1, Check.OUT_OF_BOUNDS, Check.OUT_OF_BOUNDS);
        log.append(1, 5);
        log.append(1, MIN);
        log.remove(3);
        log.append(3, MAX);
        check.values(log, -1, Check.OUT_OF_BOUNDS, "5", "" + MIN, "0", "" + MAX, Check.OUT_OF_BOUNDS);
        log.roll();
        log.flush();
        log.compact();
        check.values(log, 0, Check.NO_ELEMENT, "" + MIN, Check.NO_ELEMENT, "" + MAX, Check.OUT_OF_BOUNDS);
        check.values(log, MIN, Check.OUT_OF_BOUNDS);
        check.values(log, MAX, Check.OUT_OF_BOUNDS);
        log.append(1, 6);
        log.retain(0);
        check.values(log, 3, Check.OUT_OF_BOUNDS, "6", Check.OUT_OF_BOUNDS);
    }

    private static void key() {
        SegmentLog log = new SegmentLog();
        check.keys(log, -1, Check.OUT_OF_BOUNDS, Check.OUT_OF_BOUNDS);
        log.append(15, 5);
        log.append(0, 6);
        log.remove(0);
        log.remove(15);
        check.keys(log, -1, Check.OUT_OF_BOUNDS, "15", "0", "16", "31", Check.OUT_OF_BOUNDS);
        log.roll();
        log.flush();
        log.compact();
        check.keys(log, 0, Check.NO_ELEMENT, Check.NO_ELEMENT, "16", "31", Check.OUT_OF_BOUNDS);
        log.compact();
        check.keys(log, 2, Check.NO_ELEMENT, Check.NO_ELEMENT, Check.OUT_OF_BOUNDS);
        check.keys(log, MIN, Check.OUT_OF_BOUNDS);
        check.keys(log, MAX, Check.OUT_OF_BOUNDS);
        log.append(7, 6);
        log.retain(0);
        check.keys(log, 3, Check.OUT_OF_BOUNDS, "7", Check.OUT_OF_BOUNDS);
    }

    private static void next() {
        SegmentLog log = new SegmentLog();
        check.due("next(0)", log.next(0), -1);
        log.append(1, 0);
        log.append(2, 0);
        log.append(1, 0);
        log.roll();
        log.flush();
        log.append(2, 0);
        log.compact();
        check.due("next(MIN)", log.next(MIN), 1);
        check.due("next(0)", log.next(0), 1);
        check.due("next(1)", log.next(1), 1);
        check.due("next(2)", log.next(2), 2);
        check.due("next(3)", log.next(3), 3);
        check.due("next(4)", log.next(4), -1);
        check.due("next(MAX)", log.next(MAX), -1);
        log.retain(0);
        check.due("next(0), below START", log.next(0), 3);
    }

    private static void poll() {
        SegmentLog log = new SegmentLog();
        check.due("poll(0)", log.poll(0), -1);
        log.append(1, 0);
        log.append(2, 0);
        log.append(1, 0);
        log.roll();
        log.flush();
        log.compact();
        check.due("poll(0)", log.poll(0), 1);
        check.positions(log, 2, 0, 0, 0);
        check.due("poll(3)", log.poll(3), 1);
        check.due("poll(0)", log.poll(0), 2);
        check.due("poll(0)", log.poll(0), -1);
        check.positions(log, 3, 0, 0, 2);
        int[] wrong = {-1, 4, MIN, MAX};
        for (int group : wrong) {
            check.due("poll(" + group + ")", log.poll(group), -1);
        }
        check.positions(log, 3, 0, 0, 2);
        log.remove(1);
        check.due("poll(0), a removal", log.poll(0), 3);

        SegmentLog emptied = new SegmentLog();
        emptied.remove(1);
        emptied.roll();
        emptied.flush();
        emptied.compact();
        emptied.compact();
        check.due("poll(1), all records are gone", emptied.poll(1), -1);
        check.positions(emptied, 0, 0, 0, 0);
    }

    private static void commit() {
        SegmentLog log = filled(7);
        check.due("commit(0, 7)", log.commit(0, 7), true);
        check.due("commit(3, 0)", log.commit(3, 0), true);
        check.due("commit(1, 4)", log.commit(1, 4), true);
        check.due("commit(1, 8)", log.commit(1, 8), false);
        check.due("commit(1, -1)", log.commit(1, -1), false);
        check.due("commit(1, MIN)", log.commit(1, MIN), false);
        check.due("commit(1, MAX)", log.commit(1, MAX), false);
        check.due("commit(-1, 0)", log.commit(-1, 0), false);
        check.due("commit(4, 0)", log.commit(4, 0), false);
        check.due("commit(MIN, 0)", log.commit(MIN, 0), false);
        check.due("commit(MAX, 0)", log.commit(MAX, 0), false);
        check.positions(log, 7, 4, 0, 0);
        check.due("commit(0, 2), back", log.commit(0, 2), true);
        check.positions(log, 2, 4, 0, 0);
        log.retain(0);
        check.due("commit(0, 4), below START", log.commit(0, 4), false);
        check.due("commit(0, 5), START", log.commit(0, 5), true);
        check.positions(log, 5, 4, 0, 0);
    }

    private static void position() {
        SegmentLog log = filled(3);
        log.commit(2, 3);
        log.poll(3);
        check.positions(log, 0, 0, 3, 1, -1);
        int[] wrong = {-1, 4, MIN, MAX};
        for (int group : wrong) {
            check.due("position(" + group + ")", log.position(group), -1);
        }
    }

    private static void lag() {
        SegmentLog log = new SegmentLog();
        check.due("lag(0)", log.lag(0), 0);
        log.append(1, 0);
        log.append(2, 0);
        log.append(1, 0);
        log.remove(3);
        log.roll();
        log.flush();
        check.due("lag(0)", log.lag(0), 4);
        log.compact();
        check.due("lag(0), one is gone", log.lag(0), 3);
        log.commit(1, 2);
        check.due("lag(1)", log.lag(1), 2);
        log.commit(2, 3);
        check.due("lag(2)", log.lag(2), 1);
        log.commit(3, 4);
        check.due("lag(3)", log.lag(3), 0);
        log.append(4, 0);
        check.due("lag(3)", log.lag(3), 1);
        int[] wrong = {-1, 4, MIN, MAX};
        for (int group : wrong) {
            check.due("lag(" + group + ")", log.lag(group), -1);
        }
    }

    private static void latest() {
        SegmentLog log = new SegmentLog();
        log.append(0, 1);
        log.append(15, 1);
        log.append(0, 2);
        log.flush();
        log.remove(15);
        log.append(7, 1);
        check.due("latest(0)", log.latest(0), 2);
        check.due("latest(15), a removal", log.latest(15), -1);
        check.due("latest(7)", log.latest(7), 4);
        check.due("latest(8), none", log.latest(8), -1);
        int[] wrong = {-1, 16, 31, MIN, MAX};
        for (int key : wrong) {
            check.due("latest(" + key + ")", log.latest(key), -1);
        }
        check.due("crash()", log.crash(), 2);
        check.due("latest(15), the removal is lost", log.latest(15), 1);
        check.due("latest(7), lost", log.latest(7), -1);
        log.remove(0);
        log.append(0, 5);
        check.due("latest(0), a value behind a removal", log.latest(0), 4);
        log.retain(0);
        check.due("latest(15), taken away", log.latest(15), -1);
        check.due("latest(0)", log.latest(0), 4);
    }

    private static void segmentsAndBase() {
        SegmentLog log = filled(12);
        check.bases(log, 0, 5, 10);
        int[] wrong = {-1, 3, 512, 513, MIN, MAX};
        for (int k : wrong) {
            check.due("base(" + k + ")", log.base(k), -1);
        }
        log.retain(7);
        check.bases(log, 5, 10);
        log.crash();
        check.bases(log, 5);
    }

    private static void startEndDurable() {
        SegmentLog log = filled(6);
        check.bounds(log, 0, 0, 6);
        log.flush();
        check.bounds(log, 0, 6, 6);
        fill(log, 5);
        check.bounds(log, 0, 6, 11);
        log.retain(6);
        check.bounds(log, 5, 6, 11);
        log.retain(1);
        check.bounds(log, 10, 10, 11);
        log.compact();
        check.bounds(log, 10, 10, 11);
        log.roll();
        check.bounds(log, 10, 10, 11);
        log.crash();
        check.bounds(log, 10, 10, 10);
    }
}
