import java.lang.reflect.Array;
import java.lang.reflect.Field;
import java.lang.reflect.Modifier;
import java.util.ArrayDeque;
import java.util.Collections;
import java.util.Deque;
import java.util.IdentityHashMap;
import java.util.Set;

/**
 * How much room a year takes: its objects and arrays, and the fields and elements in them. A run of 512 calls has room
 * for 600,000 and 7,300,000, and nothing that was made is ever taken away. What a call makes stays in the year
 * (LanguageTest tells where anything is made at all), but for what about throws: one object a call.
 */
public final class RoomTest {
    private static final int MOST_OBJECTS = 1000;
    private static final int MOST_ELEMENTS = 40000;
    private static final Check CHECK = new Check("room");

    private final Set<Object> seen = Collections.newSetFromMap(new IdentityHashMap<>());
    private final Deque<Object> open = new ArrayDeque<>();
    private int elements;

    public static void main(String[] args) throws IllegalAccessException {
        room("a new year", new CottageYear());
        room("the fullest year", Years.full());
        room("the fullest year, closed", Years.at(Years.full(), 52));
        CHECK.end();
    }

    private static void room(String what, CottageYear year) throws IllegalAccessException {
        RoomTest room = new RoomTest();
        room.meet(year);
        while (!room.open.isEmpty()) {
            room.goInto(room.open.remove());
        }
        CHECK.due(what + ": some objects: " + room.seen.size(), room.seen.size() > 20 && room.seen.size() <= MOST_OBJECTS, true);
        CHECK.due(what + ": some elements: " + room.elements, room.elements > 1000 && room.elements <= MOST_ELEMENTS, true);
    }

    private void meet(Object one) {
        if (one != null && seen.add(one)) {
            open.add(one);
        }
    }

    private void goInto(Object one) throws IllegalAccessException {
        if (one.getClass().isArray()) {
            elements += Array.getLength(one);
            for (int i = 0; i < Array.getLength(one) && one instanceof Object[]; i++) {
                meet(Array.get(one, i));
            }
            return;
        }
        for (Field field : one.getClass().getDeclaredFields()) {
            if (!Modifier.isStatic(field.getModifiers())) {
                elements++;
                field.setAccessible(true);
                if (!field.getType().isPrimitive()) {
                    meet(field.get(one));
                }
            }
        }
    }
}
