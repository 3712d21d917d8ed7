import java.lang.reflect.Array;
import java.lang.reflect.Field;
import java.lang.reflect.Modifier;
import java.util.ArrayDeque;
import java.util.Collections;
import java.util.IdentityHashMap;
import java.util.Random;
import java.util.Set;

/** That a yard stays small, and that no call makes it larger, since all yards of a run share one room. */
public final class RoomTest {
    private static final int MOST_OBJECTS = 300;
    private static final int MOST_PLACES = 6000;
    private static final Expect EXPECT = new Expect();

    private final Set<Object> seen = Collections.newSetFromMap(new IdentityHashMap<>());
    private final ArrayDeque<Object> open = new ArrayDeque<>();
    /** Fields and elements together. */
    private int places;

    private RoomTest(Object from) throws IllegalAccessException {
        meet(from);
        while (!open.isEmpty()) {
            look(open.remove());
        }
    }

    public static void main(String[] args) throws IllegalAccessException {
        isSmallWhenNew();
        staysAsLarge();
        EXPECT.end();
    }

    private void meet(Object one) {
        if (one != null && seen.add(one)) {
            open.add(one);
        }
    }

    private void look(Object one) throws IllegalAccessException {
        Class<?> kind = one.getClass();
        if (kind.isArray()) {
            places += Array.getLength(one);
            for (int i = 0; !kind.getComponentType().isPrimitive() && i < Array.getLength(one); i++) {
                meet(Array.get(one, i));
            }
            return;
        }
        for (Field field : kind.getDeclaredFields()) {
            if (!Modifier.isStatic(field.getModifiers())) {
                places++;
                field.setAccessible(true);
                if (!field.getType().isPrimitive()) {
                    meet(field.get(one));
                }
            }
        }
    }

    private static void isSmallWhenNew() throws IllegalAccessException {
        RoomTest room = new RoomTest(new WaferYard());
        EXPECT.same("objects: " + room.seen.size(), room.seen.size() <= MOST_OBJECTS, true);
        EXPECT.same("places: " + room.places, room.places <= MOST_PLACES, true);
    }

    private static void staysAsLarge() throws IllegalAccessException {
        WaferYard yard = new WaferYard();
        RoomTest before = new RoomTest(yard);
        keepBusy(yard, new Random(1));
        RoomTest after = new RoomTest(yard);
        EXPECT.same("busy", yard.moves() > 500, true);
        EXPECT.same("objects behind it", after.seen.size(), before.seen.size());
        EXPECT.same("places behind it", after.places, before.places);
        EXPECT.same("the very same ones", after.seen.containsAll(before.seen), true);
    }

    private static void keepBusy(WaferYard yard, Random random) {
        for (int route = 0; route < 3; route++) {
            yard.addRoute();
            for (int step = 0; step < 12; step++) {
                yard.addStep(route, step % 4, 1, step % 3 * 9, step % 4 - 1, true);
                yard.setRework(route, step, step % 4);
            }
        }
        for (int tool = 0; tool < 6; tool++) {
            yard.addTool(tool % 4, 3, 2, 20, 2, tool - 2);
        }
        yard.setRule('q', 's', 'p', 'l');
        for (int i = 0; i < 14; i++) {
            yard.start(i % 3, 25, i % 10);
        }
        yard.split(0, 5);
        yard.split(1, 5);
        yard.merge(0, 14);
        for (int i = 0; i < 350; i++) {
            yard.pass(1 + random.nextInt(3));
            yard.release(random.nextInt(16));
            yard.why(random.nextInt(6), random.nextInt(16));
        }
    }
}
