/**
 * An object under test that counts its calls: a test that asks more than the calls that count would
 * ask for answers that are free. Beside the calls of the face it answers a few looks at many of them.
 */
final class Subject {
    static final int CALLS = 512;

    private final SegmentLog log = new SegmentLog();
    private int made = 0;

    String answer(Call call) {
        switch (call.name) {
            case "bounds": return ask("start", 0) + " " + ask("durable", 0) + " " + ask("end", 0);
            case "bases": return row("base", 0, number("segments", 0));
            case "positions": return row("position", 0, 4);
            case "lags": return row("lag", 0, 4);
            case "latests": return row("latest", 0, 16);
            case "values": return row("value", call.first, call.second + 1);
            case "keys": return row("key", call.first, call.second + 1);
            case "records": return records();
            default: return counted(call);
        }
    }

    /** All that can be seen of the object. */
    String whole() {
        int end = number("end", 0);
        return "start, durable, end " + answer(new Call("bounds", 0, 0))
            + "; bases " + row("base", -1, number("segments", 0) + 1)
            + "; positions " + row("position", 0, 4)
            + "; lags " + row("lag", 0, 4)
            + "; latest " + row("latest", 0, 16)
            + "; keys " + row("key", -1, end + 1)
            + "; values " + row("value", -1, end + 1);
    }

    /** The offsets of all records, found by next, or none. */
    private String records() {
        StringBuilder seen = new StringBuilder();
        for (int at = number("next", Integer.MIN_VALUE); at != -1; at = number("next", at + 1)) {
            seen.append(seen.length() == 0 ? "" : " ").append(at);
        }
        return seen.length() == 0 ? "none" : seen.toString();
    }

    private String row(String name, int from, int bound) {
        StringBuilder seen = new StringBuilder();
        for (int i = from; i < bound; i++) {
            seen.append(i == from ? "" : " ").append(ask(name, i));
        }
        return seen.toString();
    }

    private int number(String name, int argument) {
        return Integer.parseInt(ask(name, argument));
    }

    private String ask(String name, int argument) {
        return counted(new Call(name, argument, 0));
    }

    private String counted(Call call) {
        if (made == CALLS) {
            throw new IllegalStateException("the test makes more calls than the ones that count");
        }
        made++;
        return call.on(log);
    }
}
