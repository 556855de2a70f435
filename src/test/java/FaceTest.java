import java.lang.reflect.Constructor;
import java.lang.reflect.Field;
import java.lang.reflect.Method;
import java.lang.reflect.Modifier;
import java.util.Set;
import java.util.TreeSet;

/** The class has the constructor and methods of the document, and nothing else that can be seen. */
final class FaceTest {
    private static final String READ_THROWS =
        " throws java.lang.IndexOutOfBoundsException,java.util.NoSuchElementException";
    private static final String[] METHODS = {
        "public int SegmentLog.append(int,int)",
        "public int SegmentLog.remove(int)",
        "public int SegmentLog.flush()",
        "public int SegmentLog.crash()",
        "public boolean SegmentLog.roll()",
        "public int SegmentLog.retain(int)",
        "public int SegmentLog.compact()",
        "public int SegmentLog.value(int)" + READ_THROWS,
        "public int SegmentLog.key(int)" + READ_THROWS,
        "public int SegmentLog.next(int)",
        "public int SegmentLog.poll(int)",
        "public boolean SegmentLog.commit(int,int)",
        "public int SegmentLog.position(int)",
        "public int SegmentLog.lag(int)",
        "public int SegmentLog.latest(int)",
        "public int SegmentLog.segments()",
        "public int SegmentLog.base(int)",
        "public int SegmentLog.start()",
        "public int SegmentLog.end()",
        "public int SegmentLog.durable()",
    };

    public static void main(String[] args) {
        Check check = new Check();
        Class<SegmentLog> face = SegmentLog.class;
        check.due("the class's modifiers", Modifier.toString(face.getModifiers()), "public final");
        check.due("the class above it", face.getSuperclass().getName(), "java.lang.Object");
        check.due("the constructors", constructors(face), Set.of("public SegmentLog()"));
        check.due("the methods", methods(face), new TreeSet<>(Set.of(METHODS)));
        check.due("fields that are not private", fields(face), Set.of());
        check.due("private methods with a public one's name", sharedNames(face), Set.of());
        check.end("FaceTest");
    }

    private static Set<String> constructors(Class<?> face) {
        Set<String> seen = new TreeSet<>();
        for (Constructor<?> made : face.getDeclaredConstructors()) {
            seen.add(made.toString());
        }
        return seen;
    }

    private static Set<String> methods(Class<?> face) {
        Set<String> seen = new TreeSet<>();
        for (Method method : face.getDeclaredMethods()) {
            if (!Modifier.isPrivate(method.getModifiers())) {
                seen.add(method.toString());
            }
        }
        return seen;
    }

    private static Set<String> fields(Class<?> face) {
        Set<String> seen = new TreeSet<>();
        for (Field field : face.getDeclaredFields()) {
            if (!Modifier.isPrivate(field.getModifiers())) {
                seen.add(field.toString());
            }
        }
        return seen;
    }

    private static Set<String> sharedNames(Class<?> face) {
        Set<String> open = new TreeSet<>();
        Set<String> hidden = new TreeSet<>();
        for (Method method : face.getDeclaredMethods()) {
            (Modifier.isPrivate(method.getModifiers()) ? hidden : open).add(method.getName());
        }
        hidden.retainAll(open);
        return hidden;
    }
}
