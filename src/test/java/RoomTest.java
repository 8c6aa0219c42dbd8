import java.lang.management.ManagementFactory;
import java.lang.reflect.Array;
import java.lang.reflect.Field;
import java.lang.reflect.Modifier;
import java.util.IdentityHashMap;
import java.util.Map;
import java.util.NoSuchElementException;

/** What an object holds, and what 512 of its dearest calls make: all must live in one room (rule 12 of LANGUAGE.md). */
public final class RoomTest {
    private static final int OBJECTS = 150;
    private static final int ELEMENTS = 30000;
    private static final int CALLS = 512;
    private static final int BYTES_A_CALL = 400;
    private static int wrong = 0;

    private static final class Room {
        final Map<Object, Boolean> seen = new IdentityHashMap<>();
        long elements = 0;

        void add(Object o) throws IllegalAccessException {
            if (o == null || seen.put(o, true) != null) {
                return;
            }
            if (o.getClass().isArray()) {
                addArray(o);
                return;
            }
            for (Field f : o.getClass().getDeclaredFields()) {
                if (!Modifier.isStatic(f.getModifiers())) {
                    elements++;
                    f.setAccessible(true);
                    if (!f.getType().isPrimitive()) {
                        add(f.get(o));
                    }
                }
            }
        }

        private void addArray(Object row) throws IllegalAccessException {
            elements += Array.getLength(row);
            for (int i = 0; i < Array.getLength(row) && !row.getClass().getComponentType().isPrimitive(); i++) {
                add(Array.get(row, i));
            }
        }
    }

    public static void main(String[] args) throws IllegalAccessException {
        TunerRounds x = new TunerRounds();
        Room made = roomOf(x);
        must(made.seen.size() <= OBJECTS, "a new object has " + made.seen.size() + " objects and rows");
        must(made.elements <= ELEMENTS, "a new object has " + made.elements + " fields and elements");
        fill(x);
        // The first round through the calls loads classes; only the second one is measured.
        dearCalls(x);
        long bytes = allocated();
        int calls = dearCalls(x);
        long each = (allocated() - bytes) / calls;
        must(each <= BYTES_A_CALL, "a call makes " + each + " bytes");
        Room used = roomOf(x);
        must(used.seen.size() == made.seen.size() && used.elements == made.elements, "the object has grown");
        System.out.println("RoomTest: " + made.seen.size() + " objects, " + made.elements + " elements, " + wrong + " wrong");
        System.exit(wrong == 0 ? 0 : 1);
    }

    private static void must(boolean holds, String what) {
        if (!holds) {
            wrong++;
            System.out.println("RoomTest: " + what);
        }
    }

    private static Room roomOf(TunerRounds x) throws IllegalAccessException {
        Room room = new Room();
        room.add(x);
        return room;
    }

    private static long allocated() {
        return ((com.sun.management.ThreadMXBean) ManagementFactory.getThreadMXBean())
            .getThreadAllocatedBytes(Thread.currentThread().getId());
    }

    private static void fill(TunerRounds x) {
        StringBuilder house = new StringBuilder("work 10;walk 1;");
        for (int i = 0; i < 16; i++) {
            house.append("piano p").append((char) ('a' + i)).append(" hall ").append(i).append(" 1 9 1 1 1 frail 0 9;");
        }
        for (int i = 0; i < 6; i++) {
            house.append("tuner t").append((char) ('a' + i)).append(" 1 1;pupil q").append((char) ('a' + i)).append(";");
        }
        Checks.put(x, house.toString());
        must(x.house() == 30, "the HOUSE is not taken");
        for (int i = 0; i < 4; i++) {
            Checks.put(x, "tuned pa ta on 1;concert pa on 2;".repeat(20));
            x.records();
            Checks.put(x, "ate pb on 1;".repeat(10));
            x.records();
        }
        must(x.count(3) == 200, "there are not 200 RECORDS but " + x.count(3));
    }

    private static int dearCalls(TunerRounds x) {
        int calls = 0;
        for (; calls < CALLS; calls++) {
            switch (calls % 16) {
                case 0: nine(x); x.round(0, 1); break;
                case 1: nine(x); x.festival(1); break;
                case 2: nine(x); x.two(0, 1, 1); break;
                case 3: nine(x); x.walked(0, 1); break;
                case 4: nine(x); x.end(8); x.bag(12); break;
                case 5: x.pupils(); break;
                case 6: x.unready(0, -1); break;
                case 7: x.tunings(0, 1, -1); break;
                case 8: x.image(calls / 16 % 2); break;
                case 9: x.restore(calls / 16 % 2); break;
                case 10: x.feed(0, 0, 0, 0, 0); x.house(); break;
                case 11: x.feed(0, 0, 0, 0, 0); x.records(); break;
                case 12: x.owed(0, 363, -1); break;
                case 13: x.slips(0, -1); break;
                case 14: x.cracked(0, -1); break;
                default: refused(x);
            }
        }
        return calls;
    }

    private static void nine(TunerRounds x) {
        x.feed(0x00010203, 0x04050607, 0x08000000, 0, 0);
        x.end(9);
    }

    private static void refused(TunerRounds x) {
        try {
            x.stove(-1, 0);
            must(false, "stove() without PAIRS answers");
        } catch (NoSuchElementException e) {
            return;
        }
    }
}
