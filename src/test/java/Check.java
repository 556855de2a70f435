/** Compares answers with what is due, prints each that differs, and ends the test. */
final class Check {
    static final String OUT_OF_BOUNDS = "throws.IndexOutOfBoundsException";
    static final String NO_ELEMENT = "throws.NoSuchElementException";

    private int made = 0;
    private int wrong = 0;

    void due(String call, Object got, Object want) {
        made++;
        if (!got.equals(want)) {
            wrong++;
            System.out.println(call + " answered " + got + ", due is " + want);
        }
    }

    /** The answers of value for one offset after another, as texts: an exception is told by its name. */
    void values(SegmentLog log, int from, String... want) {
        for (int i = 0; i < want.length; i++) {
            due("value(" + (from + i) + ")", value(log, from + i), want[i]);
        }
    }

    void keys(SegmentLog log, int from, String... want) {
        for (int i = 0; i < want.length; i++) {
            due("key(" + (from + i) + ")", key(log, from + i), want[i]);
        }
    }

    void bases(SegmentLog log, int... want) {
        due("segments()", log.segments(), want.length);
        for (int k = 0; k < want.length; k++) {
            due("base(" + k + ")", log.base(k), want[k]);
        }
        due("base(" + want.length + ")", log.base(want.length), -1);
    }

    void bounds(SegmentLog log, int start, int durable, int end) {
        due("start()", log.start(), start);
        due("durable()", log.durable(), durable);
        due("end()", log.end(), end);
    }

    void positions(SegmentLog log, int... want) {
        for (int group = 0; group < want.length; group++) {
            due("position(" + group + ")", log.position(group), want[group]);
        }
    }

    /** The offsets of all records, found by next. */
    void records(SegmentLog log, int... want) {
        int from = Integer.MIN_VALUE;
        for (int offset : want) {
            due("next(" + from + ")", log.next(from), offset);
            from = offset + 1;
        }
        due("next(" + from + ")", log.next(from), -1);
    }

    static String value(SegmentLog log, int offset) {
        try {
            return Integer.toString(log.value(offset));
        } catch (RuntimeException e) {
            return thrown(e);
        }
    }

    static String key(SegmentLog log, int offset) {
        try {
            return Integer.toString(log.key(offset));
        } catch (RuntimeException e) {
            return thrown(e);
        }
    }

    void end(String test) {
        System.out.println(test + ": " + made + " answers, " + wrong + " not as due");
        if (wrong != 0 || made == 0) {
            System.exit(1);
        }
    }

    /** The very class counts: a subclass that the machine throws is not what the document names. */
    private static String thrown(RuntimeException e) {
        return "throws." + e.getClass().getSimpleName();
    }
}
