import java.lang.management.ManagementFactory;
import java.lang.reflect.Array;
import java.lang.reflect.Field;
import java.lang.reflect.Modifier;
import java.util.IdentityHashMap;
import java.util.Map;

/** All rows are made with the object: it is small, and no call makes anything more. */
public final class RoomTest {
    private static int objects = 0;
    private static int elements = 0;

    public static void main(String[] args) throws IllegalAccessException {
        size();
        callsMakeNothing();
        Check.end();
    }

    private static void size() throws IllegalAccessException {
        walk(new EatenToll(), new IdentityHashMap<>());
        System.out.println("a new object: " + objects + " objects, " + elements + " fields and elements");
        Check.due("few objects", true, objects <= 150);
        // 512 objects at once would still live in half of the room.
        Check.due("few fields and elements", true, elements <= 14000);
    }

    private static void walk(Object o, Map<Object, Boolean> seen) throws IllegalAccessException {
        if (o == null || seen.put(o, true) != null) {
            return;
        }
        objects++;
        if (o.getClass().isArray()) {
            elements += Array.getLength(o);
            return;
        }
        for (Field f : o.getClass().getDeclaredFields()) {
            if (!Modifier.isStatic(f.getModifiers())) {
                elements++;
                f.setAccessible(true);
                if (!f.getType().isPrimitive()) {
                    walk(f.get(o), seen);
                }
            }
        }
    }

    private static final com.sun.management.ThreadMXBean THREADS =
        (com.sun.management.ThreadMXBean) ManagementFactory.getThreadMXBean();

    private static long allocated() {
        return THREADS.getCurrentThreadAllocatedBytes();
    }

    private static void callsMakeNothing() {
        EatenToll x = Check.told("dish a 2 3 50; dish b 3 1 50; dish c 1 1 99; dish d 5 2 99; man m 30 0 2 9; man n 20 5 2 9 hates b;"
            + "man o 20 5 2 9 ill a 2; man p 9 0 0 0 fast 0 5; law 0 a = 2 + ahead; law 0 b = if hour < 3 then 2 else 1;"
            + "law 0 c = 4; law 0 d = 3; law 1 a = 1; belly q 10 4; belly r 12 3; belly s 9 2; goes m 1; goes n 2; owe m n 4; owe n o 3;");
        // The machine itself makes some objects when a piece of code runs for the first time.
        for (int i = 0; i < 5; i++) {
            allocated();
            everyCall(x);
        }
        long before = allocated();
        everyCall(x);
        long made = allocated() - before;
        Check.due("bytes made by calls", 0, made);
    }

    private static void everyCall(EatenToll x) {
        for (int man = -1; man < 5; man++) {
            x.man(man, 1);
            x.toll(man, 0, -1);
            x.may(man, 0);
            x.pass(man, 1);
            x.when(man, 0);
            x.hire(man, 0, 1);
            x.tongue(man, 0);
            x.together(man, 1, 0);
            x.split(man, 0, 0);
            x.hourOf(man, 0, true);
            x.net(man);
            x.enter(man, 1, 3);
        }
        x.later(2);
        x.undo();
        x.odds(18, 1, 10);
        x.soonest(15, 1);
        x.least(15, 1, true);
        x.crowd(15, 0, 1);
        x.best(15, 0);
        x.day(0);
        x.cleared();
        x.gained(0);
        x.dish(0, 0);
        x.judge(2);
        x.odd(3);
        x.led(3, -1, -1);
        x.burn();
        x.hold(0);
        x.restore(0);
        x.count(9);
        x.feed(0x64697368, 0x20612031, 0x20322033, 0x3b202020, 0x20202020);
        x.back(0);
        x.feed(1, 2, 3, 4, 5);
        x.read();
        x.place();
    }
}
