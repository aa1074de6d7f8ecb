/** Everything of an object that calls can tell, as texts to compare. */
final class Look {
    private Look() {
    }

    /** Both lines, as at() tells them: "0 1 90 | 52". */
    static String atLines(PoplarQueue queue) {
        StringBuilder row = new StringBuilder();
        for (int line = 0; line < 2; line++) {
            row.append(line == 0 ? "" : "| ");
            for (int place = 0; place < queue.count(1 + line); place++) {
                row.append(queue.at(line, place)).append(' ');
            }
        }
        return row.toString().trim();
    }

    static String atCounts(PoplarQueue queue) {
        StringBuilder row = new StringBuilder();
        for (int what = 0; what < 12; what++) {
            row.append(queue.count(what)).append(' ');
        }
        return row.toString().trim();
    }

    static String atTrees(PoplarQueue queue) {
        StringBuilder row = new StringBuilder();
        for (int tree = 0; tree < queue.count(0); tree++) {
            for (int what = 0; what < 6; what++) {
                row.append(queue.tree(tree, what)).append(' ');
            }
        }
        return row.toString().trim();
    }

    static String atBags(PoplarQueue queue) {
        StringBuilder row = new StringBuilder();
        for (int bag = 0; bag < 3; bag++) {
            for (int slot = 0; slot < 13; slot++) {
                for (int what = 0; what < 3; what++) {
                    row.append(queue.held(bag, slot, what)).append(' ');
                }
            }
        }
        return row.toString().trim();
    }

    /** What stands now: the plain, the bags, and how much there is of all else. */
    static String atNow(PoplarQueue queue) {
        return String.join(" / ", atLines(queue), atCounts(queue), atTrees(queue), atBags(queue), "" + queue.fault());
    }

    /** All that stands, is seen, is kept and is told; the object is of no more use then. */
    static String atAll(PoplarQueue queue) {
        StringBuilder all = new StringBuilder(atNow(queue));
        all.append(" / seen ").append(queue.laws());
        for (int tree = 0; tree < queue.count(0); tree++) {
            all.append(' ').append(queue.kinds(tree));
        }
        for (int k = 0; k < 2; k++) {
            all.append(" / kept ").append(queue.again(k)).append(' ').append(atLines(queue)).append(' ').append(atTrees(queue));
            all.append(' ').append(queue.count(3)).append(' ').append(queue.count(5));
        }
        queue.erase();
        Due.tell(queue, "law 0");
        return all.append(" / told ").append(atLines(queue)).append(' ').append(atTrees(queue)).toString();
    }

    /** What stands behind each undo(); the object is of no more use then. */
    static String atPast(PoplarQueue queue) {
        StringBuilder all = new StringBuilder();
        for (int i = 0; i < 9; i++) {
            all.append(queue.undo()).append(' ').append(atLines(queue)).append(' ').append(atTrees(queue));
            all.append(' ').append(queue.count(3)).append(queue.count(4)).append(queue.count(5)).append(" / ");
        }
        return all.toString();
    }
}
