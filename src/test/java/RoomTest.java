import java.lang.reflect.Array;
import java.lang.reflect.Field;
import java.lang.reflect.Modifier;
import java.util.IdentityHashMap;
import java.util.Map;

/** One object is small, and 512 of its dearest calls leave it as large as it was. */
public final class RoomTest {
    private static final long MOST_OBJECTS = 60;
    private static final long MOST_ELEMENTS = 10000;

    private long objects = 0;
    private long elements = 0;
    private final Map<Object, Boolean> seen = new IdentityHashMap<>();

    public static void main(String[] args) throws IllegalAccessException {
        Due due = new Due();
        TextOrder page = new TextOrder();
        RoomTest before = measured(page);
        due.holds(before.objects + " objects", before.objects <= MOST_OBJECTS);
        System.out.println(before.objects + " objects, " + before.elements + " fields and elements");
        due.holds(before.elements + " fields and elements", before.elements <= MOST_ELEMENTS);
        for (int i = 0; i < 200; i++) {
            page.sign(i, (i % 20) * 40L, -(i / 20) * 30L, 5, 10);
        }
        for (int i = 0; i < 100; i++) {
            page.tag(i, i % 101);
            page.find('a');
            page.find(0);
        }
        RoomTest after = measured(page);
        due.is("objects after 500 calls", after.objects, before.objects);
        due.is("fields and elements after 500 calls", after.elements, before.elements);
        due.end();
    }

    private static RoomTest measured(Object whole) throws IllegalAccessException {
        RoomTest room = new RoomTest();
        room.count(whole);
        return room;
    }

    private void count(Object thing) throws IllegalAccessException {
        if (thing == null || seen.put(thing, true) != null) {
            return;
        }
        objects++;
        if (thing.getClass().isArray()) {
            elements += Array.getLength(thing);
            return;
        }
        for (Field field : thing.getClass().getDeclaredFields()) {
            if (!Modifier.isStatic(field.getModifiers())) {
                elements++;
                field.setAccessible(true);
                if (!field.getType().isPrimitive()) {
                    count(field.get(thing));
                }
            }
        }
    }
}
