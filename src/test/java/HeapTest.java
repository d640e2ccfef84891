import java.lang.management.ManagementFactory;
import java.lang.reflect.Array;
import java.lang.reflect.Field;
import java.lang.reflect.Modifier;
import java.util.ArrayDeque;
import java.util.Collections;
import java.util.IdentityHashMap;
import java.util.Set;

/** All calls of a run share a room of 600,000 objects and 7.3 million fields and elements. */
public final class HeapTest {
    private static final Check CHECK = new Check("HeapTest");
    private static final int CALLS = 512;
    private static final long MOST_ELEMENTS = 7_300_000;

    private static long made() {
        var bean = (com.sun.management.ThreadMXBean) ManagementFactory.getThreadMXBean();
        return bean.getCurrentThreadAllocatedBytes();
    }

    private static void looked(String what, long before) {
        long bytes = made() - before;
        System.out.println("HeapTest: " + what + " made " + bytes + " bytes");
        CHECK.holds(what + " made " + bytes + " bytes", bytes < 200_000);
    }

    /** A change before each question, so that every table is made anew. */
    private static DartRoom changes() {
        DartRoom room = new DartRoom();
        for (int i = 0; i < CALLS / 8; i++) {
            room.cloud(i % 5 - 2, i / 5 % 5 - 2, 1 + i);
            room.wins(80, 80);
            room.cloud(0, 0, 1 + i);
            room.throwsOf(301);
            room.swap(i % 20, i * 7 % 20);
            room.hopeless(3);
            room.luckier();
            room.rules(i % 2);
        }
        return room;
    }

    private static void darts() {
        DartRoom room = new DartRoom();
        room.game(2, 3, 1);
        for (int i = 1; i < CALLS; i++) {
            room.dart(0);
        }
        CHECK.due("darts thrown", room.about(5), CALLS - 1);
    }

    /** Beyond its 512 calls an object may answer anything, but it must answer and not grow. */
    private static void beyond() {
        DartRoom room = new DartRoom();
        room.game(2, 3, 1);
        for (int i = 0; i < 100_000; i++) {
            room.dart(0);
        }
        for (int i = 0; i < 100_000; i++) {
            room.undo();
        }
        CHECK.due("all taken back", room.about(5), 0);
    }

    /** Fields and elements of all that an object holds. */
    private static long elements(Object start) throws IllegalAccessException {
        Set<Object> seen = Collections.newSetFromMap(new IdentityHashMap<>());
        ArrayDeque<Object> open = new ArrayDeque<>();
        open.add(start);
        long sum = 0;
        while (!open.isEmpty()) {
            Object now = open.remove();
            if (!seen.add(now)) {
                continue;
            }
            if (now.getClass().isArray()) {
                sum += Array.getLength(now);
                continue;
            }
            for (Field f : now.getClass().getDeclaredFields()) {
                if (Modifier.isStatic(f.getModifiers())) {
                    continue;
                }
                sum++;
                f.setAccessible(true);
                Object held = f.get(now);
                if (held != null && !f.getType().isPrimitive()) {
                    open.add(held);
                }
            }
        }
        return sum;
    }

    public static void main(String[] args) throws IllegalAccessException {
        made();
        long before = made();
        DartRoom full = changes();
        looked("512 calls with a change before each question", before);
        before = made();
        darts();
        looked("512 calls of darts", before);
        before = made();
        beyond();
        looked("200,001 calls", before);
        long each = elements(full);
        long fresh = elements(new DartRoom());
        System.out.println("HeapTest: " + fresh + " elements in a new room, " + each + " in a full one");
        CHECK.holds("a run of nothing but new rooms", fresh * CALLS < MOST_ELEMENTS);
        CHECK.holds("a run of new rooms, each asked once", each * CALLS / 2 < MOST_ELEMENTS);
        CHECK.end();
    }
}
