import com.sun.management.ThreadMXBean;
import java.lang.management.ManagementFactory;
import java.lang.reflect.Array;
import java.lang.reflect.Field;
import java.lang.reflect.Modifier;
import java.util.ArrayList;
import java.util.Collections;
import java.util.IdentityHashMap;
import java.util.List;
import java.util.Set;

/**
 * All calls of a run live in one room: some 600,000 objects and arrays, 7.3 million fields and elements. 512 objects, were
 * each call a new one, must fit into half of it, and no other call makes anything.
 */
public final class RoomTest {
    private static final int CALLS = 512;
    private static final int ROOM_OBJECTS = 600_000;
    private static final int ROOM_ELEMENTS = 7_300_000;
    // a call that makes one object in each of its rounds makes more bytes than these
    private static final int ROUNDS = 400;
    private static final int FEW_BYTES = 4_000;
    private static final String TEXT = "b0,2;b1,2;b2,1;b3,2;b4,2;b5,1;b6,2;b40,2;n32;r6;t(([abcdefgh])2(ah)2.)4;";
    private static final Due due = new Due();

    public static void main(String[] args) throws IllegalAccessException {
        due.part("room of an object");
        takes(new RungByADrum());
        due.part("no call makes an object");
        // each is used for one round: behind its 512th call nothing is promised of an object
        RungByADrum[] first = many(50);
        RungByADrum[] rounds = many(ROUNDS);
        ThreadMXBean threads = (ThreadMXBean) ManagementFactory.getThreadMXBean();
        long id = Thread.currentThread().getId();
        // what the machine makes for itself comes with the first rounds
        threads.getThreadAllocatedBytes(id);
        allCalls(first);
        long before = threads.getThreadAllocatedBytes(id);
        allCalls(rounds);
        long made = threads.getThreadAllocatedBytes(id) - before;
        due.holds(made + " bytes are made in " + ROUNDS + " rounds of all calls", made < FEW_BYTES);
        due.part("room of an object in use");
        takes(rounds[0]);
        due.end();
    }

    private static RungByADrum[] many(int objects) {
        RungByADrum[] made = new RungByADrum[objects];
        for (int i = 0; i < objects; i++) {
            made[i] = new RungByADrum();
        }
        return made;
    }

    private static void takes(RungByADrum x) throws IllegalAccessException {
        Set<Object> seen = Collections.newSetFromMap(new IdentityHashMap<>());
        List<Object> open = new ArrayList<>(List.of(x));
        seen.add(x);
        long elements = 0;
        while (!open.isEmpty()) {
            Object one = open.remove(open.size() - 1);
            List<Object> inside = new ArrayList<>();
            elements += one.getClass().isArray() ? cells(one, inside) : fields(one, inside);
            for (Object other : inside) {
                if (other != null && seen.add(other)) {
                    open.add(other);
                }
            }
        }
        due.holds(seen.size() + " objects", (long) seen.size() * CALLS <= ROOM_OBJECTS / 2);
        due.holds(elements + " fields and elements", elements * CALLS <= ROOM_ELEMENTS / 2);
    }

    private static int cells(Object array, List<Object> inside) {
        int length = Array.getLength(array);
        for (int i = 0; i < length && array instanceof Object[]; i++) {
            inside.add(Array.get(array, i));
        }
        return length;
    }

    private static int fields(Object one, List<Object> inside) throws IllegalAccessException {
        int many = 0;
        for (Field field : one.getClass().getDeclaredFields()) {
            if (Modifier.isStatic(field.getModifiers())) {
                continue;
            }
            many++;
            if (!field.getType().isPrimitive()) {
                field.setAccessible(true);
                inside.add(field.get(one));
            }
        }
        return many;
    }

    private static void allCalls(RungByADrum[] objects) {
        for (int i = 0; i < objects.length; i++) {
            RungByADrum x = objects[i];
            x.wipe();
            for (int place = 0; place < TEXT.length(); place++) {
                x.write(TEXT.charAt(place));
            }
            x.fault();
            x.lay();
            drive(x, i);
            ask(x, i);
            x.back();
            x.forget();
            x.wipe();
        }
    }

    private static void drive(RungByADrum x, int i) {
        for (int j = 0; j < 5; j++) {
            x.turn();
            x.turnBack();
            x.pin((i + j) % 32, j, i % 2 == 0);
            x.shift((i + j) % 32);
            x.want((i + j) % 32, i % 256);
            x.hear(i % 256);
            x.keep();
        }
        x.undo();
    }

    private static void ask(RungByADrum x, int i) {
        // beyond what each knows too
        for (int what = 0; what <= 10; what++) {
            x.bell(i % 8, what);
            x.whole(what);
            x.canon(what);
            x.changes(what);
            x.melody(what);
            x.winter(i, 60, what);
            x.count(what);
        }
        x.pins(i % 32);
        x.silence();
        x.again();
        x.harsh();
        x.letters();
        x.ringers();
        x.stood();
        x.octaves();
    }
}
