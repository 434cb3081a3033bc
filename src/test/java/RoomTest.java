import java.lang.management.ManagementFactory;
import java.lang.reflect.Array;
import java.lang.reflect.Field;
import java.lang.reflect.Modifier;
import java.util.ArrayDeque;
import java.util.Collections;
import java.util.Deque;
import java.util.IdentityHashMap;
import java.util.Set;

/** How much room an object takes, and how little its dearest calls make; and that no call throws, long behind the 512th. */
public final class RoomTest {
    public static void main(String[] args) throws IllegalAccessException {
        room();
        made();
        texts();
        Due.end();
    }

    private static void room() throws IllegalAccessException {
        Set<Object> seen = Collections.newSetFromMap(new IdentityHashMap<>());
        Deque<Object> open = new ArrayDeque<>();
        open.add(new StageFights());
        int cells = 0;
        while (!open.isEmpty()) {
            Object one = open.pop();
            if (!seen.add(one)) {
                continue;
            }
            if (one.getClass().isArray()) {
                cells += Array.getLength(one);
                for (int i = 0; i < Array.getLength(one) && one instanceof Object[]; i++) {
                    note(open, Array.get(one, i));
                }
                continue;
            }
            for (Field f : one.getClass().getDeclaredFields()) {
                if (!Modifier.isStatic(f.getModifiers())) {
                    f.setAccessible(true);
                    cells++;
                    if (!f.getType().isPrimitive()) {
                        note(open, f.get(one));
                    }
                }
            }
        }
        System.out.println(seen.size() + " objects and arrays, " + cells + " fields and elements");
        Due.is("objects and arrays", seen.size() < 250 ? 1 : 0, 1);
        Due.is("fields and elements", cells < 6000 ? 1 : 0, 1);
    }

    private static void note(Deque<Object> open, Object one) {
        if (one != null) {
            open.push(one);
        }
    }

    private static void made() {
        StageFights x = new StageFights();
        for (int i = 0; i < 8; i++) {
            x.person(i % 2 == 0 ? i : 110 + i, 3);
        }
        for (int i = 0; i < 20; i++) {
            x.move(i % 8, i % 6, 10 * (5 * (i / 8) + 10) + 4, 10 * (i % 12), i % 8 == 0 ? 12 : 2);
        }
        x.choose(1);
        x.choose(5);
        x.choose(7);
        x.keep();
        dear(x, 200);
        long before = bytesMade();
        dear(x, 500);
        long bytes = bytesMade() - before;
        System.out.println(bytes + " bytes made by 500 turns of dear calls");
        Due.is("dear calls make nothing", bytes < 100000 ? 1 : 0, 1);
    }

    private static long bytesMade() {
        com.sun.management.ThreadMXBean told = (com.sun.management.ThreadMXBean) ManagementFactory.getThreadMXBean();
        return told.getThreadAllocatedBytes(Thread.currentThread().getId());
    }

    /** The longest texts, as many as 512 calls can tell: a text and its two rows each, whether there is room for it or not. */
    private static void texts() {
        StageFights x = new StageFights();
        String longest = "late 3" + "-0".repeat(45);
        int[] fours = new int[24];
        for (int i = 0; i < fours.length; i++) {
            fours[i] = Due.four(longest, 4 * i);
        }
        told(x, fours, 200);
        long before = bytesMade();
        told(x, fours, 56);
        long bytes = bytesMade() - before;
        System.out.println(bytes + " bytes made by 56 of the longest texts");
        Due.is("a text makes little", bytes < 56 * 1200 ? 1 : 0, 1);
        Due.is("they are told", x.count(5), 14);
    }

    private static void told(StageFights x, int[] fours, int times) {
        for (int turn = 0; turn < times; turn++) {
            for (int i = 0; i < fours.length; i += 3) {
                x.feed(fours[i], fours[i + 1], fours[i + 2]);
            }
            x.text();
        }
    }

    private static void dear(StageFights x, int turns) {
        for (int i = 0; i < turns; i++) {
            x.shifts(-1);
            x.understudy(i % 8, i % 10, 0);
            x.breach(1);
            x.may();
            x.story();
            x.show(20);
            x.led();
            x.tell(i);
            x.check(20);
            x.lay(i % 5, i % 4, i % 4);
            x.sheet(i % 4, i % 2, 24);
            x.back();
            x.keep();
        }
    }
}
