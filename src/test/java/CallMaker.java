/** Makes mixed calls from a seed, always the same ones for the same seed. */
final class CallMaker {
    static final String[] READS = {
        "value", "key", "next", "position", "lag", "latest", "segments", "base", "start", "end", "durable",
    };
    private static final String[] RARE_CHANGES = {"crash", "roll", "retain", "compact", "flush"};
    private static final int[] WRONG = {Integer.MIN_VALUE, -2, -1, Integer.MAX_VALUE};

    private long state;
    private final int keys;
    private final int rareOfHundred;
    private final int readsOfHundred;

    CallMaker(long seed) {
        state = seed;
        keys = 1 + below(16);
        rareOfHundred = 2 + below(40);
        readsOfHundred = below(50);
    }

    int below(int bound) {
        return Math.floorMod(number(), bound);
    }

    /** The log's end tells which offsets are worth asking for. */
    Call call(int end) {
        int dice = below(100);
        if (dice < rareOfHundred) {
            return new Call(RARE_CHANGES[below(RARE_CHANGES.length)], orWrong(below(45)), 0);
        }
        if (dice < rareOfHundred + readsOfHundred) {
            return read(READS[below(READS.length)], end);
        }
        switch (below(8)) {
            case 0: return new Call("poll", orWrong(below(5)), 0);
            case 1: return new Call("commit", orWrong(below(5)), orWrong(below(end + 3)));
            case 2: return new Call("remove", orWrong(below(keys)), 0);
            default: return new Call("append", orWrong(below(keys + below(2))), number());
        }
    }

    private Call read(String name, int end) {
        switch (name) {
            case "position":
            case "lag": return new Call(name, orWrong(below(6)), 0);
            case "latest": return new Call(name, orWrong(below(18)), 0);
            default: return new Call(name, orWrong(below(end + 3)), 0);
        }
    }

    private int orWrong(int right) {
        return below(30) == 0 ? WRONG[below(WRONG.length)] : right;
    }

    /** SplitMix64, so that the runs are the same on every machine and no random source is asked. */
    private int number() {
        state += 0x9E3779B97F4A7C15L;
        long mixed = (state ^ (state >>> 30)) * 0xBF58476D1CE4E5B9L;
        mixed = (mixed ^ (mixed >>> 27)) * 0x94D049BB133111EBL;
        return (int) (mixed >>> 32);
    }
}
