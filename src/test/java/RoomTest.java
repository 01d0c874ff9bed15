import java.lang.management.ManagementFactory;
import java.lang.reflect.Array;
import java.lang.reflect.Field;
import java.lang.reflect.Modifier;
import java.util.ArrayDeque;
import java.util.Collections;
import java.util.Deque;
import java.util.IdentityHashMap;
import java.util.Set;

/** How much room an object takes, new and told as much as it may be, and what its calls make. */
public final class RoomTest {
    private static final String LONGEST = "add 1 if 1+1+1+1+1+1+1+1+1+1+1+1+1+1+1+1<9";

    private int objects;
    private int elements;

    private RoomTest() {
    }

    public static void main(String[] args) throws IllegalAccessException {
        HutRow fresh = new HutRow();
        Check.isTrue("few objects at first", of(fresh).objects <= 120);
        Check.isTrue("few elements at first", of(fresh).elements <= 3500);
        HutRow full = full();
        Check.isTrue("few objects of a full one", of(full).objects <= 150);
        Check.isTrue("few elements of a full one", of(full).elements <= 5500);
        Check.isTrue("questions make nothing", madeByQuestions(full) < 2000);
        Check.close();
    }

    /** All that is reached from an object, each once. */
    private static RoomTest of(Object first) throws IllegalAccessException {
        RoomTest room = new RoomTest();
        Set<Object> seen = Collections.newSetFromMap(new IdentityHashMap<>());
        Deque<Object> open = new ArrayDeque<>();
        open.add(first);
        while (!open.isEmpty()) {
            Object one = open.remove();
            if (seen.add(one)) {
                room.objects++;
                if (one.getClass().isArray()) {
                    room.array(one, open);
                } else {
                    room.fields(one, open);
                }
            }
        }
        return room;
    }

    private void array(Object one, Deque<Object> open) {
        int length = Array.getLength(one);
        elements += length;
        for (int i = 0; i < length && !one.getClass().getComponentType().isPrimitive(); i++) {
            if (Array.get(one, i) != null) {
                open.add(Array.get(one, i));
            }
        }
    }

    private void fields(Object one, Deque<Object> open) throws IllegalAccessException {
        for (Field field : one.getClass().getDeclaredFields()) {
            if (!Modifier.isStatic(field.getModifiers())) {
                elements++;
                field.setAccessible(true);
                if (!field.getType().isPrimitive() && field.get(one) != null) {
                    open.add(field.get(one));
                }
            }
        }
    }

    private static HutRow full() {
        HutRow x = new HutRow();
        for (int i = 0; i < 12; i++) {
            x.person(1950, 100, true);
            x.thief(5);
        }
        for (int i = 0; i < 10; i++) {
            x.hut(1, i, 5);
            x.lost(i, 4, 0);
            x.waits(i, 1970);
            x.storm(1970, 0);
        }
        for (int i = 0; i < 40; i++) {
            x.event(1960, i % 2 == 0 ? 6 : 3, i % 10, (i + 1) % 10);
        }
        for (int i = 0; i < 20; i++) {
            x.freed(3);
            x.photo(i % 10, 1960 + i, i % 8);
        }
        for (int i = 0; i < 8; i++) {
            x.plank(255, i, 9);
        }
        texts(x);
        x.image();
        texts(x);
        return x;
    }

    private static void texts(HutRow x) {
        StringBuilder lines = new StringBuilder(LONGEST);
        while (lines.length() + LONGEST.length() < 399) {
            lines.append(';').append(LONGEST);
        }
        Check.text(x, 0, "to child if " + lines.substring(LONGEST.indexOf("1+"), LONGEST.length()));
        Check.text(x, 1, lines.toString());
        Check.text(x, 2, lines.toString());
        Check.text(x, 3, "allow 1");
    }

    /** Bytes that the thread has got for questions; the first round is for what the machine itself makes. */
    private static long madeByQuestions(HutRow x) {
        com.sun.management.ThreadMXBean bean = (com.sun.management.ThreadMXBean) ManagementFactory.getThreadMXBean();
        long thread = Thread.currentThread().getId();
        questions(x);
        long before = bean.getThreadAllocatedBytes(thread);
        questions(x);
        return bean.getThreadAllocatedBytes(thread) - before;
    }

    private static long questions(HutRow x) {
        long sum = x.fault() + x.leaves(1980, 2) + x.income(1980, 2) + x.order(3, 1980, 1980) + x.howLong(3, true);
        sum += x.toll(1980, 50) + x.dodged(5) + x.lift(127, 4, 2, 3) + x.crane(1023, 0, 1, false) + x.rows();
        sum += x.flood(50, 1980, true) + x.sea(0, 1980, true) + x.whose(0) + x.thieves(true) + x.count(8) + x.count(9);
        for (int hut = 0; hut < 10; hut++) {
            sum += x.holder(hut, 1980, 1980) + x.since(hut, 1980, 1980) + x.place(hut, 1980, 1980);
            sum += x.rent(hut, 1980, 1980) + x.level(hut, 1980, true) + x.allowed(hut, 1980) + x.breaches(hut);
            sum += x.painted(hut) + x.about(hut, 1980, 1980, hut % 7);
        }
        x.image();
        return sum + (x.back() ? 1 : 0);
    }
}
