import java.lang.management.ManagementFactory;
import java.lang.reflect.Array;
import java.lang.reflect.Field;
import java.lang.reflect.Modifier;
import java.util.ArrayDeque;
import java.util.Collections;
import java.util.Deque;
import java.util.IdentityHashMap;
import java.util.List;
import java.util.Set;
import java.util.function.Supplier;

/**
 * All calls of one run live in one room: an object is small when it is made, keeps nothing more for its calls, and no
 * call makes an object (but glove its exception).
 */
public final class RoomTest extends Check {
    private static final int MOST_OBJECTS = 100;
    private static final int MOST_ELEMENTS = 7000;
    private static final int ROUNDS = 1500;
    /** What Java itself may need meanwhile; one object a round would be 24,000 bytes at least. */
    private static final long SLACK = 8000;

    public static void main(String[] args) throws IllegalAccessException {
        about = "one room";
        long[] made = sizeOf(new GloveHouses());
        due("objects of a new one: " + made[0], made[0] <= MOST_OBJECTS, true);
        due("fields and elements of a new one: " + made[1], made[1] <= MOST_ELEMENTS, true);
        List<Supplier<GloveHouses>> states = List.of(States::withoutPeace, States::busy, States::undone, States::full);
        for (Supplier<GloveHouses> state : states) {
            long[] kept = sizeOf(state.get());
            due("objects", kept[0], made[0]);
            due("fields and elements", kept[1], made[1]);
        }
        callsMakeNothing();
        closes();
    }

    /** How many objects and arrays it is made of, and how many fields and elements they have. */
    private static long[] sizeOf(GloveHouses x) throws IllegalAccessException {
        Set<Object> there = Collections.newSetFromMap(new IdentityHashMap<>());
        Deque<Object> open = new ArrayDeque<>();
        there.add(x);
        open.add(x);
        long elements = 0;
        while (!open.isEmpty()) {
            Object o = open.remove();
            if (o.getClass().isArray()) {
                elements += Array.getLength(o);
                if (!o.getClass().getComponentType().isPrimitive()) {
                    for (Object part : (Object[]) o) if (part != null && there.add(part)) open.add(part);
                }
                continue;
            }
            for (Field f : o.getClass().getDeclaredFields()) {
                if (Modifier.isStatic(f.getModifiers())) continue;
                elements++;
                if (f.getType().isPrimitive()) continue;
                f.setAccessible(true);
                Object part = f.get(o);
                if (part != null && there.add(part)) open.add(part);
            }
        }
        return new long[] {there.size(), elements};
    }

    private static void callsMakeNothing() {
        var threads = (com.sun.management.ThreadMXBean) ManagementFactory.getThreadMXBean();
        if (!threads.isThreadAllocatedMemorySupported() || !threads.isThreadAllocatedMemoryEnabled()) return;
        long me = Thread.currentThread().getId();
        GloveHouses[] objects = new GloveHouses[ROUNDS + 1];
        for (int i = 0; i <= ROUNDS; i++) objects[i] = States.busy();
        int sum = callAll(objects[ROUNDS]);
        threads.getThreadAllocatedBytes(me);
        long before = threads.getThreadAllocatedBytes(me);
        for (int i = 0; i < ROUNDS; i++) sum -= callAll(objects[i]);
        long bytes = threads.getThreadAllocatedBytes(me) - before;
        due("bytes made by " + ROUNDS + " rounds of calls (" + sum + "): " + bytes, bytes <= SLACK, true);
    }

    /** Every method of the face once at least, as dear as it can be. */
    private static int callAll(GloveHouses x) {
        int sum = x.end(0) ? 1 : 0;
        sum += x.feed(0x793a773c, 0x39262161, 0x3d313f66, 0x2f322d70, 0x3b793a31);
        sum += x.fault(0) + x.fault(1) + x.text(1) + x.feed(0x673b6768, 0x313b6d6e, 0x34000000, 0, 0) + x.fault(0);
        sum += x.rule(0) + x.glove(0, 5) + x.matter(0, 2) + x.warmth(0, 3) + (x.law(2) ? 1 : 0);
        sum += x.meets(0, 3) + x.loosen(1) + x.stuff(2, 4) + x.swallow() + x.tear(0) + x.give(50) + x.days(60);
        sum += (x.spite(5) ? 1 : 0) + x.years(60, 7L) + x.status(1) + x.undo() + x.log(3, 2) + x.rises(1, 4);
        sum += x.later(0, 3, 60) + x.soonest(3, 0) + x.pairs(0) + x.allKnow() + x.seen(0, 3, 1, true) + x.fits(0, -1);
        sum += x.ask(0, 3) + x.game(0, 0, 1) + x.sure(1) + x.rests(-1) + x.odds(3, 0, 3, 8, 50) + x.shares(0, 999);
        for (int what = 0; what <= 8; what++) sum += x.most(what);
        sum += x.allies(0) + x.image() + x.back();
        for (int what = 0; what <= 11; what++) sum += x.count(what);
        return sum + x.text(0);
    }
}
