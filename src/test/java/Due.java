/** Counts the answers that are not as due, for one test's main method. */
final class Due {
    private final String test;
    private int looked = 0;
    private int wrong = 0;

    Due(String test) {
        this.test = test;
    }

    void due(String call, long got, long want) {
        looked++;
        if (got != want) {
            wrong++;
            System.out.println(test + ": " + call + " answered " + got + ", due is " + want);
        }
    }

    void holds(String what, boolean got) {
        due(what, got ? 1 : 0, 1);
    }

    int wrong() {
        return wrong;
    }

    void end() {
        System.out.println(test + ": " + looked + " looked at, " + wrong + " wrong");
        if (wrong != 0 || looked == 0) {
            System.exit(1);
        }
    }

    static void write(PoplarQueue queue, String text) {
        for (int i = 0; i < text.length(); i++) {
            queue.write(text.charAt(i));
        }
    }

    /** A new object that has been told a text. */
    static PoplarQueue told(String text) {
        PoplarQueue queue = new PoplarQueue();
        tell(queue, text);
        return queue;
    }

    static int tell(PoplarQueue queue, String text) {
        write(queue, text);
        return queue.plain();
    }

    /** Both lines, as at() tells them: "0 1 90 | 52". */
    static String lines(PoplarQueue queue) {
        StringBuilder row = new StringBuilder();
        for (int line = 0; line < 2; line++) {
            row.append(line == 0 ? "" : "| ");
            for (int place = 0; place < queue.count(1 + line); place++) {
                row.append(queue.at(line, place)).append(' ');
            }
        }
        return row.toString().trim();
    }

    void stand(String call, PoplarQueue queue, String want) {
        String got = lines(queue);
        looked++;
        if (!got.equals(want)) {
            wrong++;
            System.out.println(test + ": behind " + call + " they stand " + got + ", due is " + want);
        }
    }
}
