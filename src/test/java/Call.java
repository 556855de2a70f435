/** A call of the face, with its arguments, that can be made on any object. */
final class Call {
    final String name;
    final int first;
    final int second;

    Call(String name, int first, int second) {
        this.name = name;
        this.first = first;
        this.second = second;
    }

    /** The answer as a text: a number, true or false, or throws. and the exception's name. */
    String on(SegmentLog log) {
        switch (name) {
            case "append": return String.valueOf(log.append(first, second));
            case "remove": return String.valueOf(log.remove(first));
            case "flush": return String.valueOf(log.flush());
            case "crash": return String.valueOf(log.crash());
            case "roll": return String.valueOf(log.roll());
            case "retain": return String.valueOf(log.retain(first));
            case "compact": return String.valueOf(log.compact());
            case "value": return Check.value(log, first);
            case "key": return Check.key(log, first);
            case "next": return String.valueOf(log.next(first));
            case "poll": return String.valueOf(log.poll(first));
            case "commit": return String.valueOf(log.commit(first, second));
            case "position": return String.valueOf(log.position(first));
            case "lag": return String.valueOf(log.lag(first));
            case "latest": return String.valueOf(log.latest(first));
            case "segments": return String.valueOf(log.segments());
            case "base": return String.valueOf(log.base(first));
            case "start": return String.valueOf(log.start());
            case "end": return String.valueOf(log.end());
            case "durable": return String.valueOf(log.durable());
            default: throw new IllegalArgumentException(name);
        }
    }

    @Override
    public String toString() {
        return name + "(" + first + ", " + second + ")";
    }
}
