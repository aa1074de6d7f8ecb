import java.util.function.Supplier;
import java.util.function.ToIntFunction;

/** Counts the answers that are not as due, for one test's main method. */
final class Due {
    private final String test;
    private String part = "";
    private int looked = 0;
    private int wrong = 0;

    Due(String test) {
        this.test = test;
    }

    /** The same call on the busy object. */
    void refusedBusy(String call, ToIntFunction<PoplarQueue> ask, int want) {
        refused(call, Due::busy, ask, want);
    }

    /** Names the part of the test that comes now, for what is printed. */
    void begin(String name) {
        part = ", " + name;
    }

    void due(String call, long got, long want) {
        looked++;
        if (got != want) {
            wrong++;
            System.out.println(test + part + ": " + call + " answered " + got + ", due is " + want);
        }
    }

    /**
     * A call that is refused, on an object that is made twice in the same way: nothing that can be
     * looked at afterwards may tell the one that was asked from the one that was not.
     */
    void refused(String call, Supplier<PoplarQueue> made, ToIntFunction<PoplarQueue> ask, int want) {
        PoplarQueue asked = made.get();
        due(call, ask.applyAsInt(asked), want);
        same(call + " changes nothing", Look.atAll(asked), Look.atAll(made.get()));
        PoplarQueue undone = made.get();
        ask.applyAsInt(undone);
        same(call + " changes nothing that can be undone", Look.atPast(undone), Look.atPast(made.get()));
    }

    void same(String what, String got, String want) {
        looked++;
        if (!got.equals(want)) {
            wrong++;
            System.out.println(test + part + ": " + what + ": got " + got + ", due is " + want);
        }
    }

    void holds(String what, boolean got) {
        due(what, got ? 1 : 0, 1);
    }

    int wrong() {
        return wrong;
    }

    int looked() {
        return looked;
    }

    void end() {
        System.out.println(test + ": " + looked + " looked at, " + wrong + " wrong");
        if (wrong != 0 || looked == 0) {
            System.exit(1);
        }
    }

    static void write(PoplarQueue queue, String text) {
        for (int i = 0; i < text.length(); i++) {
            queue.write(text.charAt(i));
        }
    }

    /** A new object that has been told a text. */
    static PoplarQueue told(String text) {
        PoplarQueue queue = new PoplarQueue();
        tell(queue, text);
        return queue;
    }

    /**
     * An object of which each part is in use. Line 0: farmer 2, a gap, pusher 6. Line 1: stump 3, the gap of old 5.
     * Poplars 0, 4 and pusher 1 are called, old 5 is at home. It is night 3, the law is 1, line 0 has the turn,
     * 7 can be undone, both keeps are in use, 2 are seen, bag 0 has 3 slots, bag 1 has none, bag 2 is missing.
     */
    static PoplarQueue busy() {
        PoplarQueue queue = told("poplar 0 5;pusher 0 9;old 0 3;gap 0;stump 1 7;poplar 1 2;old 1 6;law 0");
        queue.keep(0);
        queue.night();
        queue.night();
        queue.home(5);
        queue.join(0, 1, 50);
        queue.fell(2);
        queue.law(1);
        queue.keep(1);
        queue.night();
        queue.seen(3, 1);
        queue.seen(9, 1);
        queue.bag(0, 3);
        queue.hold(0, 0, 0, 77);
        queue.hold(0, 1, 1, 2);
        queue.wrap(0, 1);
        queue.bag(1, 0);
        write(queue, "law 2;gap");
        return queue;
    }

    static int tell(PoplarQueue queue, String text) {
        write(queue, text);
        return queue.plain();
    }

    void stand(String call, PoplarQueue queue, String want) {
        same("how they stand behind " + call, Look.atLines(queue), want);
    }
}
