import java.util.ArrayList;
import java.util.Arrays;
import java.util.HashMap;
import java.util.List;
import java.util.Map;
import java.util.TreeMap;

/**
 * The document written a second time, with maps and lists and no care for speed, so that the class can
 * be held against it. Answers are texts, as Call writes them.
 */
final class Model {
    private static final class Entry {
        final int key;
        final Integer value;
        boolean left = false;

        Entry(int key, Integer value) {
            this.key = key;
            this.value = value;
        }
    }

    private final TreeMap<Integer, Entry> records = new TreeMap<>();
    private final List<Integer> bases = new ArrayList<>(List.of(0));
    private final int[] positions = new int[4];
    private int start = 0;
    private int end = 0;
    private int durable = 0;

    String answer(Call call) {
        int a = call.first;
        switch (call.name) {
            case "append": return text(add(a, call.second));
            case "remove": return text(add(a, null));
            case "flush": return text(flush());
            case "crash": return text(crash());
            case "roll": return text(roll());
            case "retain": return text(retain(a));
            case "compact": return text(compact());
            case "value": return read(a, false);
            case "key": return read(a, true);
            case "next": return text(firstFrom(a));
            case "poll": return text(poll(a));
            case "commit": return text(commit(a, call.second));
            case "position": return text(group(a) ? positions[a] : -1);
            case "lag": return text(group(a) ? records.tailMap(positions[a]).size() : -1);
            case "latest": return text(latest(a));
            case "segments": return text(bases.size());
            case "base": return text(a >= 0 && a < bases.size() ? bases.get(a) : -1);
            case "start": return text(start);
            case "end": return text(end);
            case "durable": return text(durable);
            default: throw new IllegalArgumentException(call.name);
        }
    }

    /** All that later answers can hang on: two models with the same text answer alike for ever. */
    String state() {
        StringBuilder all = new StringBuilder();
        records.forEach((offset, entry) -> all.append(offset).append(' ').append(entry.key).append(' ')
            .append(entry.value).append(' ').append(entry.left).append("; "));
        return all + "" + bases + Arrays.toString(positions) + start + " " + durable + " " + end;
    }

    private int add(int key, Integer value) {
        if (key < 0 || key > 15) {
            return -1;
        }
        if (records.size() == 60) {
            return -2;
        }
        records.put(end, new Entry(key, value));
        end++;
        if (bases.get(bases.size() - 1) == end - 5) {
            bases.add(end);
        }
        return end - 1;
    }

    private int flush() {
        int before = durable;
        durable = end;
        return durable - before;
    }

    private int crash() {
        int before = records.size();
        records.keySet().removeIf(offset -> offset >= durable);
        end = durable;
        bases.removeIf(base -> base >= end);
        bases.add(end);
        for (int g = 0; g < 4; g++) {
            if (positions[g] > end) {
                positions[g] = end;
            }
        }
        return before - records.size();
    }

    private boolean roll() {
        if (bases.get(bases.size() - 1) == end) {
            return false;
        }
        bases.add(end);
        return true;
    }

    private int retain(int n) {
        if (n < 0) {
            return -1;
        }
        int before = records.size();
        while (bases.size() > 1 && records.tailMap(bases.get(1)).size() >= n) {
            bases.remove(0);
            records.headMap(bases.get(0)).clear();
        }
        start = bases.get(0);
        if (durable < start) {
            durable = start;
        }
        return before - records.size();
    }

    private int compact() {
        int before = records.size();
        int point = 0;
        for (int base : bases) {
            if (base <= durable) {
                point = Math.max(point, base);
            }
        }
        Map<Integer, Entry> below = records.headMap(point);
        Map<Integer, Entry> latest = new HashMap<>();
        below.values().forEach(entry -> latest.put(entry.key, entry));
        below.values().removeIf(entry -> latest.get(entry.key) != entry || (entry.value == null && entry.left));
        below.values().forEach(entry -> entry.left = true);
        return before - records.size();
    }

    private String read(int offset, boolean key) {
        if (offset < start || offset >= end) {
            return Check.OUT_OF_BOUNDS;
        }
        Entry entry = records.get(offset);
        if (entry == null) {
            return Check.NO_ELEMENT;
        }
        if (key) {
            return text(entry.value == null ? entry.key + 16 : entry.key);
        }
        return text(entry.value == null ? 0 : entry.value);
    }

    private int firstFrom(int offset) {
        Integer found = records.ceilingKey(offset);
        return found == null ? -1 : found;
    }

    private int poll(int group) {
        if (!group(group) || firstFrom(positions[group]) == -1) {
            return -1;
        }
        int offset = firstFrom(positions[group]);
        positions[group] = offset + 1;
        return offset;
    }

    private boolean commit(int group, int offset) {
        if (!group(group) || offset < start || offset > end) {
            return false;
        }
        positions[group] = offset;
        return true;
    }

    private int latest(int key) {
        int found = -1;
        for (Map.Entry<Integer, Entry> record : records.entrySet()) {
            if (record.getValue().key == key) {
                found = record.getValue().value == null ? -1 : record.getKey();
            }
        }
        return found;
    }

    private static boolean group(int group) {
        return group >= 0 && group < 4;
    }

    private static String text(Object answer) {
        return String.valueOf(answer);
    }
}
