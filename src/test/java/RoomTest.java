import java.lang.reflect.Array;
import java.lang.reflect.Field;
import java.lang.reflect.Modifier;
import java.util.IdentityHashMap;

/**
 * What an object holds, in objects and in fields and elements: it is made once, and nothing but FACTS adds to it,
 * so that the room that all calls of a run share is never near its end.
 */
public final class RoomTest {
    private static final int MOST_OBJECTS = 150, MOST_ELEMENTS = 9000;
    private final IdentityHashMap<Object, Boolean> held = new IdentityHashMap<>();
    private int elements = 0;

    public static void main(String[] args) throws Exception {
        WreckCourt x = new WreckCourt();
        RoomTest first = new RoomTest();
        first.look(x);
        System.out.println(first.held.size() + " objects, " + first.elements + " fields and elements");
        Checks.due("few objects", first.held.size() <= MOST_OBJECTS ? 1 : 0, 1);
        Checks.due("few elements", first.elements <= MOST_ELEMENTS ? 1 : 0, 1);
        use(x);
        RoomTest last = new RoomTest();
        last.look(x);
        Checks.due("objects more behind some 500 calls", last.held.size() - first.held.size(), 12);
        Checks.end();
    }

    private static void use(WreckCourt x) {
        for (int i = 0; i < 12; i++) {
            x.fact(i % 4, 0, i, i * 100, 0, 0, i % 3, 0);
        }
        for (int i = 0; i < 35; i++) {
            x.sheet(i % 8, i % 3, 120);
            x.copy(i % 8, 0, i % 8, 1, 100);
            x.ship(0, 0);
            x.order(0, i, i % 16, i % 50);
            x.tide(i, i % 8, 0, 60);
            x.hole(i % 6, i, 1);
            x.door(i % 5, i, 0);
            x.sinks();
            Checks.read(x, "if fog=0 must turn;");
            x.blame(0, 0);
            x.court(i, 0);
        }
    }

    private void look(Object one) throws Exception {
        if (one == null || held.put(one, true) != null) {
            return;
        }
        if (one.getClass().isArray()) {
            elements += Array.getLength(one);
            for (int i = 0; i < Array.getLength(one) && !one.getClass().getComponentType().isPrimitive(); i++) {
                look(Array.get(one, i));
            }
            return;
        }
        for (Field field : one.getClass().getDeclaredFields()) {
            if (!Modifier.isStatic(field.getModifiers())) {
                elements++;
                field.setAccessible(true);
                if (!field.getType().isPrimitive()) {
                    look(field.get(one));
                }
            }
        }
    }
}
