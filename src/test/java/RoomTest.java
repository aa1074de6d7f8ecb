import java.lang.reflect.Array;
import java.lang.reflect.Field;
import java.lang.reflect.Modifier;
import java.util.ArrayDeque;
import java.util.Deque;
import java.util.IdentityHashMap;
import java.util.Map;

/**
 * How much room an object takes, in objects and arrays, and in their fields and elements. Behind the constructor
 * only hold() and wrap() make something, one holder each (CallDepthTest looks at that), so what an object can
 * come to in all its calls is what a new one has and a holder for each call.
 */
public final class RoomTest {
    private static final int CALLS = 512;
    private static final int MOST_OBJECTS = 1000;
    private static final int MOST_ELEMENTS = 8000;

    private static final Due d = new Due("RoomTest");
    private static int objects = 0;
    private static int elements = 0;

    public static void main(String[] args) throws IllegalAccessException {
        measure(new PoplarQueue());
        int newObjects = objects;
        int newElements = elements;
        PoplarQueue queue = new PoplarQueue();
        queue.bag(0, 1);
        queue.hold(0, 0, 0, 1);
        measure(queue);
        int holderFields = elements - newElements;
        d.due("objects that hold() makes", objects - newObjects, 1);
        d.holds("objects in all: " + (newObjects + CALLS), newObjects + CALLS <= MOST_OBJECTS);
        d.holds("elements in all: " + (newElements + CALLS * holderFields), newElements + CALLS * holderFields <= MOST_ELEMENTS);
        d.end();
    }

    private static void measure(Object from) throws IllegalAccessException {
        Map<Object, Boolean> met = new IdentityHashMap<>();
        Deque<Object> open = new ArrayDeque<>();
        elements = 0;
        meet(from, met, open);
        while (!open.isEmpty()) {
            Object next = open.pop();
            if (next.getClass().isArray()) {
                lookIntoArray(next, met, open);
            } else {
                lookIntoFields(next, met, open);
            }
        }
        objects = met.size();
    }

    private static void meet(Object part, Map<Object, Boolean> met, Deque<Object> open) {
        if (part != null && met.put(part, true) == null) {
            open.push(part);
        }
    }

    private static void lookIntoArray(Object array, Map<Object, Boolean> met, Deque<Object> open) {
        elements += Array.getLength(array);
        if (!array.getClass().getComponentType().isPrimitive()) {
            for (Object part : (Object[]) array) {
                meet(part, met, open);
            }
        }
    }

    private static void lookIntoFields(Object object, Map<Object, Boolean> met, Deque<Object> open)
        throws IllegalAccessException {
        for (Field field : object.getClass().getDeclaredFields()) {
            if (!Modifier.isStatic(field.getModifiers())) {
                elements++;
                field.setAccessible(true);
                if (!field.getType().isPrimitive()) {
                    meet(field.get(object), met, open);
                }
            }
        }
    }
}
