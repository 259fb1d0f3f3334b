import java.lang.management.ManagementFactory;
import java.lang.reflect.Array;
import java.lang.reflect.Field;
import java.lang.reflect.Modifier;
import java.util.IdentityHashMap;

/** What an object takes, and that its calls make nothing: all calls of a run live in one room. */
public final class RoomTest {
    /** So few that the object stays within the 512 calls that the document promises. */
    private static final int ROUNDS = 15;

    public static void main(String[] args) throws Exception {
        size();
        callsMakeNothing();
        Due.end();
    }

    private static void size() throws Exception {
        IdentityHashMap<Object, Object> seen = new IdentityHashMap<>();
        long elements = count(new TakeOver(), seen);
        System.out.println(seen.size() + " objects and arrays, " + elements + " fields and elements");
        Due.yes("objects and arrays of one: " + seen.size(), seen.size() <= 200);
        Due.yes("fields and elements of one: " + elements, elements <= 12000);
    }

    private static long count(Object one, IdentityHashMap<Object, Object> seen) throws Exception {
        if (one == null || seen.put(one, one) != null) {
            return 0;
        }
        if (one.getClass().isArray()) {
            return Array.getLength(one);
        }
        long sum = 0;
        for (Field field : one.getClass().getDeclaredFields()) {
            if (!Modifier.isStatic(field.getModifiers())) {
                sum++;
                if (!field.getType().isPrimitive()) {
                    field.setAccessible(true);
                    sum += count(field.get(one), seen);
                }
            }
        }
        return sum;
    }

    private static void callsMakeNothing() {
        com.sun.management.ThreadMXBean threads =
                (com.sun.management.ThreadMXBean) ManagementFactory.getThreadMXBean();
        TakeOver x = full();
        callAll(x);
        long before = threads.getCurrentThreadAllocatedBytes();
        for (int i = 0; i < ROUNDS; i++) {
            callAll(x);
        }
        long made = threads.getCurrentThreadAllocatedBytes() - before;
        Due.yes("bytes made by " + ROUNDS + " rounds of calls: " + made, made < 20000);
    }

    /** As much as can be told, with a long law. */
    private static TakeOver full() {
        TakeOver x = new TakeOver();
        x.bridges(3);
        for (int i = 0; i < 29; i++) {
            x.load(1 + i % 3, i % 4, i);
        }
        for (int i = 0; i < 20; i++) {
            x.crosser(30 + i * 6, i % 3, i / 3 % 2, 60, 0, 1);
            x.set(2, i, i < 8 ? 1 : 0);
            x.offer(150, 0, 0, 3, 1);
            x.list(160, 3, 1 << 28);
        }
        StringBuilder law = new StringBuilder();
        for (int i = 0; i < 14; i++) {
            law.append("leave when weight+1*2/3>9*9;");
        }
        Due.is("the long law", Due.law(x, law.substring(0, 392)), 14);
        return x;
    }

    private static void callAll(TakeOver x) {
        x.over(28, 3);
        x.back(3);
        x.gathers(1, 167, 1);
        x.best(0, 0, 99, 0, 167, 0);
        x.send(99, 0, 3, 0, 167, 0);
        x.fewest((1 << 29) - 1, 3, 167, 0);
        x.right(20);
        x.night(0);
        x.chance(3, 4, 8, 1);
        x.image(true);
        x.hours(3);
        x.image(false);
        x.feed(1952541541, 544696421, 1847603517, 824188960, 538976288);
        x.text();
        x.who(3, 8);
        x.of(3, 2);
        x.waits(0, 0);
        x.book(0, 0);
        x.look(4);
    }
}
