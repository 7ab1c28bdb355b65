import java.lang.reflect.Array;
import java.lang.reflect.Field;
import java.lang.reflect.Modifier;
import java.util.IdentityHashMap;
import java.util.Map;

/** How much room an object takes with all that it holds. */
final class Room {
    private final Map<Object, Boolean> seen = new IdentityHashMap<>();
    int objects = 0;
    int places = 0;

    Room(Object root) throws IllegalAccessException {
        add(root);
    }

    private void add(Object one) throws IllegalAccessException {
        if (one == null || one instanceof String || seen.put(one, true) != null) {
            return;
        }
        objects++;
        if (one.getClass().isArray()) {
            addElements(one);
            return;
        }
        for (Field field : one.getClass().getDeclaredFields()) {
            if (!Modifier.isStatic(field.getModifiers())) {
                places++;
                field.setAccessible(true);
                if (!field.getType().isPrimitive()) {
                    add(field.get(one));
                }
            }
        }
    }

    private void addElements(Object array) throws IllegalAccessException {
        places += Array.getLength(array);
        if (array instanceof Object[]) {
            for (Object element : (Object[]) array) {
                add(element);
            }
        }
    }
}
