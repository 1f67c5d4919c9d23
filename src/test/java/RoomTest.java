import java.lang.management.ManagementFactory;
import java.lang.reflect.Array;
import java.lang.reflect.Field;
import java.lang.reflect.Modifier;
import java.util.ArrayDeque;
import java.util.Collections;
import java.util.Deque;
import java.util.IdentityHashMap;
import java.util.Set;

/** All calls of a run live in one room, so an object holds little, and a call that is answered makes nothing. */
public final class RoomTest extends Check {
    private static final int MOST_OBJECTS = 80;
    private static final int MOST_FIELDS = 2500;
    private static final int[] LOOPS = {0, 1, 2};

    public static void main(String[] args) throws IllegalAccessException {
        holdsLittle();
        makesNothing();
        end("an object holds little, and its calls make nothing");
    }

    /** Counts all that can be come to from an object, after all kinds of calls. */
    private static void holdsLittle() throws IllegalAccessException {
        sentence("make rows in constructors and use them again");
        MoodPlayer x = told();
        callAll(x);
        Set<Object> seen = Collections.newSetFromMap(new IdentityHashMap<>());
        Deque<Object> open = new ArrayDeque<>();
        seen.add(x);
        open.add(x);
        int fields = 0;
        while (!open.isEmpty()) {
            Object next = open.remove();
            if (next.getClass().isArray()) {
                fields += Array.getLength(next);
            }
            for (Object part : next instanceof Object[] row ? row : partsOf(next)) {
                if (part != null && seen.add(part)) {
                    open.add(part);
                }
            }
            fields += fieldsOf(next);
        }
        is(true, seen.size() > 10 && seen.size() <= MOST_OBJECTS);
        is(true, fields > 1000 && fields <= MOST_FIELDS);
    }

    private static int fieldsOf(Object of) {
        int fields = 0;
        for (Field f : of.getClass().getDeclaredFields()) {
            fields += Modifier.isStatic(f.getModifiers()) ? 0 : 1;
        }
        return fields;
    }

    private static Object[] partsOf(Object of) throws IllegalAccessException {
        Field[] all = of.getClass().getDeclaredFields();
        Object[] parts = new Object[all.length];
        for (int i = 0; i < all.length; i++) {
            if (!Modifier.isStatic(all[i].getModifiers()) && !all[i].getType().isPrimitive()) {
                all[i].setAccessible(true);
                parts[i] = all[i].get(of);
            }
        }
        return parts;
    }

    private static void makesNothing() {
        sentence("count your dearest call's objects and elements times all calls");
        com.sun.management.ThreadMXBean threads = (com.sun.management.ThreadMXBean) ManagementFactory.getThreadMXBean();
        callAll(told());
        threads.getCurrentThreadAllocatedBytes();
        MoodPlayer x = told();
        long before = threads.getCurrentThreadAllocatedBytes();
        callAll(x);
        long between = threads.getCurrentThreadAllocatedBytes();
        long after = threads.getCurrentThreadAllocatedBytes();
        // What the counting itself makes shows between two looks with no call.
        is(after - between, between - before);
    }

    private static MoodPlayer told() {
        MoodPlayer x = new MoodPlayer();
        x.piece(LOOP, 4, 24, 0, 2);
        x.piece(BRIDGE, 2, 36, 0, 1);
        x.piece(LOOP, 3, 24, 2, 1);
        x.piece(LAYER, 1, 24, 0, 1);
        x.piece(STING, 2, 24, 0, 1);
        return x;
    }

    /** Every call of the face, with answers that are no exceptions; no more than 512 of them. */
    private static long callAll(MoodPlayer x) {
        long sum = x.piece(LOOP, 5, 30, 4, 1) + x.joint(0, 2, 1, 5) + x.joint(1, 2, 2, 5) + x.joint(2, 3, 0, 5);
        for (int round = 0; round < 18; round++) {
            sum += x.play(round % 3) ? 1 : 0;
            sum += x.price(0, round) + x.price(1, round % 4) + x.layer(3, 1 + round % 8) + x.sting(4) + x.ask(1);
            sum += x.way(MoodPlayer.NONE) + x.cost() + x.level(3) + x.log(0, 0) + x.joint(0, 1 + round % 4, 5, round);
            for (int piece : LOOPS) {
                sum += x.reach(piece, 2) + x.lacks(piece, 5);
            }
            sum += x.keep(round % 4) ? 1 : 0;
            sum += x.go(round % 2 == 0 ? 20000 : 77) + x.now(round % 11);
            sum += x.goOn(round % 4) ? 1 : 0;
            sum += x.go(31) + x.leave();
        }
        return sum;
    }
}
