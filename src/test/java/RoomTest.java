import java.lang.reflect.Array;
import java.lang.reflect.Field;
import java.lang.reflect.Modifier;
import java.util.ArrayDeque;
import java.util.Collections;
import java.util.Deque;
import java.util.IdentityHashMap;
import java.util.Set;

/** What an object holds: so little that a run of 512 constructors fits the room, and no more behind many calls. */
public final class RoomTest {
    private static final Checks CHECKS = new Checks("RoomTest");
    private static final int CALLS = 512;
    private static final int ROOM_OBJECTS = 600_000;
    private static final int ROOM_ELEMENTS = 7_300_000;
    private static final String LAW = "g50+[n*2](d>0|!a=0&b<3);g7/0(n=n)";

    private final Set<Object> seen = Collections.newSetFromMap(new IdentityHashMap<>());
    private final Deque<Object> left = new ArrayDeque<>();
    private int elements;

    public static void main(String[] args) throws IllegalAccessException {
        RoomTest fresh = new RoomTest();
        fresh.walk(new StarDays());
        CHECKS.due("objects fit: " + fresh.seen.size(), fresh.seen.size() <= ROOM_OBJECTS / CALLS, true);
        CHECKS.due("elements fit: " + fresh.elements, fresh.elements <= ROOM_ELEMENTS / CALLS, true);
        StarDays used = Checks.with(6, 6);
        use(used);
        RoomTest behind = new RoomTest();
        behind.walk(used);
        CHECKS.due("objects behind many calls", behind.seen.size(), fresh.seen.size());
        CHECKS.due("elements behind many calls", behind.elements, fresh.elements);
        CHECKS.end();
    }

    private static void use(StarDays x) {
        for (int i = 0; i < 8; i++) {
            x.task(123456, i % 2, 100);
        }
        for (int i = 0; i < 250; i++) {
            CHECKS.due("law", Checks.tellLaw(x, i % 6, LAW), 2);
            x.now(i);
            x.does(i % 6, i % 8);
            x.told(i % 5, i % 7, i, i % 2);
            x.asks(i % 6, i);
            x.old(i % 100, i % 11, i % 2);
            x.mistakes(i % 6, i % 8, i);
            x.again();
            x.lasts(i % 6, i % 8, i % 6, 1);
            x.worse(0, 1, i % 8, 0);
            x.fewest(i % 4 - 1);
        }
    }

    private void walk(Object start) throws IllegalAccessException {
        enter(start);
        while (!left.isEmpty()) {
            Object one = left.pop();
            if (one.getClass().isArray()) {
                walkArray(one);
            } else {
                walkFields(one);
            }
        }
    }

    private void enter(Object one) {
        if (one != null && seen.add(one)) {
            left.push(one);
        }
    }

    private void walkArray(Object array) {
        elements += Array.getLength(array);
        for (int i = 0; i < Array.getLength(array) && array instanceof Object[] objects; i++) {
            enter(objects[i]);
        }
    }

    private void walkFields(Object one) throws IllegalAccessException {
        for (Field field : one.getClass().getDeclaredFields()) {
            if (!Modifier.isStatic(field.getModifiers())) {
                elements++;
                field.setAccessible(true);
                if (!field.getType().isPrimitive()) {
                    enter(field.get(one));
                }
            }
        }
    }
}
