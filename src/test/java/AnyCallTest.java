import java.lang.reflect.InvocationTargetException;
import java.lang.reflect.Method;
import java.util.ArrayList;
import java.util.Comparator;
import java.util.List;
import java.util.Random;
import java.util.Set;

/** Any calls with any arguments: none throws, and what is refused or only asked changes nothing. */
public final class AnyCallTest {
    private static final int RUNS = 300;
    private static final int CALLS = 512;
    private static final int[] EDGES = {Integer.MIN_VALUE, Integer.MIN_VALUE + 1, -1000, -100, -2, -1, 13, 14, 20, 21, 59, 60,
        61, 99, 100, 200, 255, 256, 1000, Integer.MAX_VALUE - 1, Integer.MAX_VALUE};
    private static final Set<String> ASKED = Set.of("fault", "tree", "at", "as", "when", "where", "next", "best", "send",
        "waits", "laws", "kinds", "door", "held", "count");

    private static final Due d = new Due("AnyCallTest");

    public static void main(String[] args) throws IllegalAccessException {
        List<Method> calls = new ArrayList<>(List.of(PoplarQueue.class.getDeclaredMethods()));
        calls.removeIf(m -> !java.lang.reflect.Modifier.isPublic(m.getModifiers()));
        calls.sort(Comparator.comparing(Method::getName));
        for (int seed = 0; seed < RUNS && d.wrong() < 20; seed++) {
            run(calls, new Random(seed), "run " + seed);
        }
        d.end();
    }

    private static void run(List<Method> calls, Random random, String run) throws IllegalAccessException {
        PoplarQueue queue = new PoplarQueue();
        if (random.nextInt(3) > 0) {
            Due.tell(queue, "poplar 0 5;pusher 0 9;gap 1;old 1 3;stump 0 7;pusher 0 30;pusher 1 8;poplar 1 2");
        }
        for (int i = 0; i < CALLS && d.wrong() < 20; i++) {
            Method call = calls.get(random.nextInt(calls.size()));
            Object[] given = arguments(call, random);
            String name = run + ", call " + i + ": " + call.getName() + " " + List.of(given);
            String ahead = Look.atNow(queue);
            try {
                int answer = (int) call.invoke(queue, given);
                boolean same = answer < PoplarQueue.NONE || ASKED.contains(call.getName());
                d.holds(name + " changes nothing", !same || ahead.equals(Look.atNow(queue)));
                d.holds(name + " answers as told: " + answer, answer >= -15 && (answer >= -5 || answer <= -11));
            } catch (InvocationTargetException e) {
                d.holds(name + " throws " + e.getCause(), false);
            }
        }
    }

    private static Object[] arguments(Method call, Random random) {
        Class<?>[] types = call.getParameterTypes();
        Object[] given = new Object[types.length];
        for (int i = 0; i < types.length; i++) {
            int edge = random.nextInt(6) == 0 ? EDGES[random.nextInt(EDGES.length)] : random.nextInt(random.nextBoolean() ? 3 : 13);
            if (types[i] == long.class) {
                given[i] = random.nextInt(4) == 0 ? random.nextLong() : (long) edge;
            } else {
                given[i] = call.getName().equals("write") && random.nextBoolean() ? 32 + random.nextInt(91) : edge;
            }
        }
        return given;
    }
}
