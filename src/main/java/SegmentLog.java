import java.util.NoSuchElementException;

/**
 * A log of records with keys, kept in segments: records are appended and read by their offsets, old
 * segments are taken away, a cleaner leaves only the latest record of each key in what is safe, a
 * crash loses what was not made durable, and groups of readers keep how far they have read.
 */
public final class SegmentLog {
    private static final int NONE = -1;
    private static final int NO_SUCH_KEY = -1;
    private static final int FULL = -2;
    private static final int BAD_COUNT = -1;

    private static final int KEYS = 16;
    private static final int GROUPS = 4;
    private static final int MOST_RECORDS = 60;
    private static final int SEGMENT_SPAN = 5;
    private static final int REMOVAL_MARK = 16;

    // A call opens one segment at the most, so the 512 calls that count never fill this row.
    private static final int MOST_SEGMENTS = 513;

    // The records stand in the order of their offsets; index i of each of these rows is one record.
    private final int[] offsets;
    private final int[] keys;
    private final int[] values;
    private final boolean[] removals;
    private final boolean[] cleaned;
    private int recordCount;

    private final int[] bases;
    private int segmentCount;

    private final int[] positions;

    // Only compact uses this row; it is kept so that a cleaning makes no new one.
    private final int[] latestIndex;

    private int startOffset;
    private int endOffset;
    private int durableOffset;

    public SegmentLog() {
        offsets = new int[MOST_RECORDS];
        keys = new int[MOST_RECORDS];
        values = new int[MOST_RECORDS];
        removals = new boolean[MOST_RECORDS];
        cleaned = new boolean[MOST_RECORDS];
        recordCount = 0;
        bases = new int[MOST_SEGMENTS];
        segmentCount = 1;
        positions = new int[GROUPS];
        latestIndex = new int[KEYS];
        startOffset = 0;
        endOffset = 0;
        durableOffset = 0;
    }

    public int append(int key, int value) {
        return addRecord(key, value, false);
    }

    public int remove(int key) {
        return addRecord(key, 0, true);
    }

    public int flush() {
        int rise = endOffset - durableOffset;
        durableOffset = endOffset;
        return rise;
    }

    public int crash() {
        int gone = dropRecords(indexFrom(durableOffset), recordCount);
        endOffset = durableOffset;
        while (segmentCount > 0 && bases[segmentCount - 1] >= endOffset) {
            segmentCount--;
        }
        openSegment();
        for (int group = 0; group < GROUPS; group++) {
            positions[group] = Math.min(positions[group], endOffset);
        }
        return gone;
    }

    public boolean roll() {
        if (activeBase() == endOffset) {
            return false;
        }
        openSegment();
        return true;
    }

    public int retain(int n) {
        if (n < 0) {
            return BAD_COUNT;
        }
        int leaving = 0;
        while (leaving < segmentCount - 1 && recordsFrom(bases[leaving + 1]) >= n) {
            leaving++;
        }
        dropFirstSegments(leaving);
        startOffset = bases[0];
        durableOffset = Math.max(durableOffset, startOffset);
        return dropRecords(0, indexFrom(startOffset));
    }

    public int compact() {
        int below = indexFrom(point());
        for (int i = 0; i < below; i++) {
            latestIndex[keys[i]] = i;
        }
        int kept = 0;
        for (int i = 0; i < below; i++) {
            if (outlivesCleaning(i)) {
                moveRecord(i, kept);
                cleaned[kept] = true;
                kept++;
            }
        }
        return dropRecords(kept, below);
    }

    public int value(int offset) throws IndexOutOfBoundsException, NoSuchElementException {
        // A removal was kept with value 0.
        return values[indexOfRecord(offset)];
    }

    public int key(int offset) throws IndexOutOfBoundsException, NoSuchElementException {
        int i = indexOfRecord(offset);
        return removals[i] ? keys[i] + REMOVAL_MARK : keys[i];
    }

    public int next(int offset) {
        int i = indexFrom(offset);
        return i < recordCount ? offsets[i] : NONE;
    }

    public int poll(int group) {
        if (!isGroup(group)) {
            return NONE;
        }
        int i = indexFrom(positions[group]);
        if (i >= recordCount) {
            return NONE;
        }
        positions[group] = offsets[i] + 1;
        return offsets[i];
    }

    public boolean commit(int group, int offset) {
        if (!isGroup(group) || offset < startOffset || offset > endOffset) {
            return false;
        }
        positions[group] = offset;
        return true;
    }

    public int position(int group) {
        return isGroup(group) ? positions[group] : NONE;
    }

    public int lag(int group) {
        return isGroup(group) ? recordsFrom(positions[group]) : NONE;
    }

    public int latest(int key) {
        for (int i = recordCount - 1; i >= 0; i--) {
            if (keys[i] == key) {
                return removals[i] ? NONE : offsets[i];
            }
        }
        return NONE;
    }

    public int segments() {
        return segmentCount;
    }

    public int base(int k) {
        return k >= 0 && k < segmentCount ? bases[k] : NONE;
    }

    public int start() {
        return startOffset;
    }

    public int end() {
        return endOffset;
    }

    public int durable() {
        return durableOffset;
    }

    private int addRecord(int key, int value, boolean removal) {
        if (key < 0 || key >= KEYS) {
            return NO_SUCH_KEY;
        }
        if (recordCount >= MOST_RECORDS) {
            return FULL;
        }
        int offset = endOffset;
        offsets[recordCount] = offset;
        keys[recordCount] = key;
        values[recordCount] = value;
        removals[recordCount] = removal;
        cleaned[recordCount] = false;
        recordCount++;
        endOffset++;
        if (endOffset - activeBase() == SEGMENT_SPAN) {
            openSegment();
        }
        return offset;
    }

    private int activeBase() {
        return bases[segmentCount - 1];
    }

    private void openSegment() {
        // The row can be full only after the calls that count; the segment that is active then stays so.
        if (segmentCount < MOST_SEGMENTS) {
            bases[segmentCount] = endOffset;
            segmentCount++;
        }
    }

    private void dropFirstSegments(int leaving) {
        for (int k = leaving; k < segmentCount; k++) {
            bases[k - leaving] = bases[k];
        }
        segmentCount -= leaving;
    }

    /** THE POINT of the document; the first base is START, which is never above DURABLE. */
    private int point() {
        int k = segmentCount - 1;
        while (k > 0 && bases[k] > durableOffset) {
            k--;
        }
        return bases[k];
    }

    private boolean outlivesCleaning(int i) {
        return latestIndex[keys[i]] == i && !(removals[i] && cleaned[i]);
    }

    /** The index of the first record at this offset or above; the count of records if there is none. */
    private int indexFrom(int offset) {
        int i = 0;
        while (i < recordCount && offsets[i] < offset) {
            i++;
        }
        return i;
    }

    private int recordsFrom(int offset) {
        return recordCount - indexFrom(offset);
    }

    private int indexOfRecord(int offset) {
        if (offset < startOffset || offset >= endOffset) {
            throw new IndexOutOfBoundsException("the offset is not START .. END - 1");
        }
        int i = indexFrom(offset);
        if (i >= recordCount || offsets[i] != offset) {
            throw new NoSuchElementException("there is no record at the offset");
        }
        return i;
    }

    /** Takes away the records at the indexes first .. bound - 1, and answers how many they were. */
    private int dropRecords(int first, int bound) {
        int gone = bound - first;
        for (int i = bound; i < recordCount; i++) {
            moveRecord(i, i - gone);
        }
        recordCount -= gone;
        return gone;
    }

    private void moveRecord(int from, int to) {
        offsets[to] = offsets[from];
        keys[to] = keys[from];
        values[to] = values[from];
        removals[to] = removals[from];
        cleaned[to] = cleaned[from];
    }

    private boolean isGroup(int group) {
        return group >= 0 && group < GROUPS;
    }
}
