import java.lang.reflect.Array;
import java.lang.reflect.Field;
import java.lang.reflect.Modifier;
import java.util.ArrayDeque;
import java.util.Collections;
import java.util.Deque;
import java.util.IdentityHashMap;
import java.util.Set;

/** How many objects and arrays hang on one, and how many fields and elements they have in all. */
final class Room {
    private final Set<Object> seen = Collections.newSetFromMap(new IdentityHashMap<>());
    private final Deque<Object> ahead = new ArrayDeque<>();
    private int elements = 0;

    int objects() {
        return seen.size();
    }

    int elements() {
        return elements;
    }

    void lookAt(Object first) throws IllegalAccessException {
        ahead.add(first);
        while (!ahead.isEmpty()) {
            Object one = ahead.remove();
            if (seen.add(one)) {
                if (one.getClass().isArray()) {
                    lookIntoArray(one);
                } else {
                    lookIntoFields(one);
                }
            }
        }
    }

    private void lookIntoArray(Object array) {
        elements += Array.getLength(array);
        if (array instanceof Object[] row) {
            for (Object element : row) {
                goOnTo(element);
            }
        }
    }

    private void lookIntoFields(Object one) throws IllegalAccessException {
        for (Field field : one.getClass().getDeclaredFields()) {
            if (!Modifier.isStatic(field.getModifiers())) {
                elements++;
                field.setAccessible(true);
                if (!field.getType().isPrimitive()) {
                    goOnTo(field.get(one));
                }
            }
        }
    }

    private void goOnTo(Object next) {
        if (next != null) {
            ahead.add(next);
        }
    }
}
