import java.lang.reflect.Array;
import java.lang.reflect.Field;
import java.lang.reflect.Modifier;
import java.util.ArrayDeque;
import java.util.Collections;
import java.util.IdentityHashMap;
import java.util.Set;

/** What a desk holds stays small: 512 new ones, each filled, have room in one run's room. */
public final class RoomTest {
    private static final int OBJECTS = 600_000 / 512;
    private static final int ELEMENTS = 7_300_000 / 512;

    private static int objects;
    private static int elements;

    public static void main(String[] args) throws IllegalAccessException {
        due("a new desk", new TitleDesk());
        TitleDesk desk = new TitleDesk();
        StringBuilder text = new StringBuilder("tongues 4;");
        for (int bar = 1; bar <= 40; bar++) {
            text.append("at ").append(bar).append("\"a b\";");
        }
        Check.due("text", Check.text(desk, text.toString()), 40);
        for (int title = 0; title < 40; title++) {
            for (int tongue = 0; tongue < 4; tongue++) {
                Check.due("price", desk.price(title, tongue), 17 * 17);
            }
        }
        Check.change(desk, 3, 3, "abc def");
        due("a full desk", desk);
        Check.end();
    }

    private static void due(String name, TitleDesk desk) throws IllegalAccessException {
        objects = 0;
        elements = 0;
        walk(desk);
        System.out.println(name + " has " + objects + " objects and arrays, " + elements + " fields and elements");
        Check.due(name + " has few objects", objects <= OBJECTS, true);
        Check.due(name + " has few elements", elements <= ELEMENTS, true);
    }

    private static void walk(Object root) throws IllegalAccessException {
        Set<Object> seen = Collections.newSetFromMap(new IdentityHashMap<>());
        ArrayDeque<Object> open = new ArrayDeque<>();
        open.add(root);
        while (!open.isEmpty()) {
            Object at = open.remove();
            if (!seen.add(at)) {
                continue;
            }
            objects++;
            if (at.getClass().isArray()) {
                elements += Array.getLength(at);
                for (int i = 0; !at.getClass().getComponentType().isPrimitive() && i < Array.getLength(at); i++) {
                    add(open, Array.get(at, i));
                }
                continue;
            }
            for (Field field : at.getClass().getDeclaredFields()) {
                if (!Modifier.isStatic(field.getModifiers())) {
                    elements++;
                    field.setAccessible(true);
                    add(open, field.getType().isPrimitive() ? null : field.get(at));
                }
            }
        }
    }

    private static void add(ArrayDeque<Object> open, Object reached) {
        if (reached != null) {
            open.add(reached);
        }
    }
}
