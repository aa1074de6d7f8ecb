/** Promises 29 to 36: bags, and what is counted. */
public final class BagsTest {
    private static final Due d = new Due("BagsTest");
    private static final int NULL = PoplarQueue.NULL, INDEX = PoplarQueue.INDEX, EMPTY = PoplarQueue.EMPTY;
    private static final int CAST = PoplarQueue.CAST, UNKNOWN = PoplarQueue.UNKNOWN, OUTSIDE = PoplarQueue.OUTSIDE;
    private static final int MOST = Integer.MAX_VALUE, LEAST = Integer.MIN_VALUE;

    public static void main(String[] args) {
        promise29Bag();
        promise30Hold();
        promise31Wrap();
        promise32Open();
        promise33Held();
        promise33Numbers();
        promise34Move();
        promise34MoveWithinABag();
        promise34MoveRefused();
        promise35Drop();
        promise36Count();
        d.end();
    }

    private static void promise29Bag() {
        PoplarQueue q = new PoplarQueue();
        d.due("bag(0, 0)", q.bag(0, 0), 0);
        d.due("bag(1, 12)", q.bag(1, 12), 12);
        d.due("bag(2, 13)", q.bag(2, 13), OUTSIDE);
        d.due("bag(2, -1)", q.bag(2, -1), PoplarQueue.SIZE);
        d.due("bag(2, least)", q.bag(2, LEAST), PoplarQueue.SIZE);
        d.due("bag(3, 13)", q.bag(3, 13), UNKNOWN);
        d.due("bag(-1, -1)", q.bag(-1, -1), UNKNOWN);
        d.due("bags that are there", q.count(9), 2);
        d.due("a slot of a bag of none", q.held(0, 0, 0), INDEX);
        d.due("slot 11 of a new bag", q.held(1, 11, 0), EMPTY);
        q.hold(1, 11, 0, 5);
        d.due("bag(1, -1) of one that is there", q.bag(1, -1), PoplarQueue.SIZE);
        d.due("it changes nothing", q.held(1, 11, 0), 5);
        d.due("bag(1, 12) anew", q.bag(1, 12), 12);
        d.due("slot 11 of the newer bag", q.held(1, 11, 0), EMPTY);
    }

    private static void promise30Hold() {
        PoplarQueue q = Due.told("poplar 0 1;poplar 0 1");
        d.due("hold in a missing bag", q.hold(0, 0, 0, 5), NULL);
        d.due("hold nothing in a missing bag", q.hold(0, 9, 2, 5), NULL);
        q.bag(0, 2);
        d.due("hold of a number", q.hold(0, 0, 0, 5), 1);
        d.due("hold of a tree", q.hold(0, 1, 1, 1), 1);
        d.due("the number", q.held(0, 0, 0), 5);
        d.due("the tree", q.held(0, 1, 1), 1);
        d.due("hold of nothing", q.hold(0, 1, 2, -77), 1);
        d.due("nothing", q.held(0, 1, 1), EMPTY);
        d.due("hold(0, 2, ..)", q.hold(0, 2, 0, 5), INDEX);
        d.due("hold(0, -1, ..)", q.hold(0, -1, 0, 5), INDEX);
        d.due("hold(0, 2, 2, ..)", q.hold(0, 2, 2, 5), INDEX);
        d.due("hold of what 3", q.hold(1, 0, 3, 5), OUTSIDE);
        d.due("hold of what -1", q.hold(0, 0, -1, 5), OUTSIDE);
        d.due("hold of tree 2", q.hold(0, 9, 1, 2), UNKNOWN);
        d.due("hold of tree -1", q.hold(0, 0, 1, -1), UNKNOWN);
        d.due("hold of tree 2 to the 32", q.hold(0, 0, 1, 1L << 32), UNKNOWN);
        d.due("hold of no tree in a missing bag", q.hold(1, 0, 1, 2), UNKNOWN);
        d.due("hold in bag 3", q.hold(3, 0, 9, 5), UNKNOWN);
        d.due("hold in bag -1", q.hold(-1, 0, 0, 5), UNKNOWN);
        d.due("what is refused changes nothing", q.held(0, 0, 0), 5);
    }

    private static void promise31Wrap() {
        PoplarQueue q = new PoplarQueue();
        d.due("wrap in a missing bag", q.wrap(0, 0), NULL);
        q.bag(0, 2);
        d.due("wrap of nothing", q.wrap(0, 0), EMPTY);
        d.due("wrap(0, 2)", q.wrap(0, 2), INDEX);
        d.due("wrap(0, -1)", q.wrap(0, -1), INDEX);
        d.due("wrap(3, 0)", q.wrap(3, 0), UNKNOWN);
        d.due("wrap(-1, 0)", q.wrap(-1, 0), UNKNOWN);
        q.hold(0, 0, 0, 7);
        for (int deep = 2; deep <= 4; deep++) {
            d.due("wrap", q.wrap(0, 0), deep);
        }
        d.due("wrap of 4 deep", q.wrap(0, 0), PoplarQueue.FULL);
        d.due("it stays 4 deep", q.held(0, 0, 2), 3);
    }

    private static void promise32Open() {
        PoplarQueue q = Due.told("poplar 0 1");
        d.due("open in a missing bag", q.open(0, 0), NULL);
        q.bag(0, 2);
        d.due("open of nothing", q.open(0, 0), EMPTY);
        d.due("open(0, 2)", q.open(0, 2), INDEX);
        d.due("open(3, 0)", q.open(3, 0), UNKNOWN);
        q.hold(0, 0, 0, 7);
        d.due("open of a number", q.open(0, 0), CAST);
        q.hold(0, 1, 1, 0);
        d.due("open of a tree", q.open(0, 1), CAST);
        q.wrap(0, 1);
        q.wrap(0, 1);
        d.due("open of 3 deep", q.open(0, 1), 2);
        d.due("open of 2 deep", q.open(0, 1), 1);
        d.due("the tree is there", q.held(0, 1, 1), 0);
    }

    private static void promise33Held() {
        PoplarQueue q = Due.told("poplar 0 1;stump 1 2");
        d.due("held in a missing bag", q.held(0, 0, 0), NULL);
        d.due("held of what 3 in a missing bag", q.held(0, 0, 3), OUTSIDE);
        d.due("held of what -1", q.held(0, 0, -1), OUTSIDE);
        d.due("held(3, 0, 9)", q.held(3, 0, 9), UNKNOWN);
        q.bag(0, 4);
        q.hold(0, 0, 0, 7);
        q.hold(0, 1, 1, 1);
        q.hold(0, 2, 0, 7);
        q.wrap(0, 2);
        int[][] want = {{7, CAST, CAST}, {CAST, 1, CAST}, {CAST, CAST, 1}, {EMPTY, EMPTY, EMPTY}, {INDEX, INDEX, INDEX}};
        for (int i = 0; i < 5; i++) {
            for (int what = 0; what < 3; what++) {
                d.due("held(0, " + i + ", " + what + ")", q.held(0, i, what), want[i][what]);
            }
        }
        q.join(0, 0, 0);
        q.hold(0, 3, 1, 2);
        q.undo();
        d.due("held of a tree whose joining is undone", q.held(0, 3, 1), 2);
        d.due("hold of it", q.hold(0, 3, 1, 2), UNKNOWN);
    }

    private static void promise33Numbers() {
        PoplarQueue q = new PoplarQueue();
        q.bag(2, 1);
        long[] numbers = {0, 1, 1000002, 1000003, 1000004, -1, -2, -1000003, -1000004, Long.MAX_VALUE, Long.MIN_VALUE, 1L << 32};
        int[] want = {0, 1, 1000002, 0, 1, 2000000, 2000001, 3000002, 2000000, 675344, 2675344, 954414};
        for (int i = 0; i < numbers.length; i++) {
            q.hold(2, 0, 0, numbers[i]);
            d.due("held of " + numbers[i], q.held(2, 0, 0), want[i]);
        }
    }

    private static PoplarQueue numbered(int n) {
        PoplarQueue q = new PoplarQueue();
        q.bag(0, n);
        for (int i = 0; i < n; i++) {
            q.hold(0, i, 0, 10 + i);
        }
        return q;
    }

    private static void slots(String call, PoplarQueue q, int bag, int... want) {
        for (int i = 0; i < want.length; i++) {
            d.due(call + ": slot " + i, q.held(bag, i, 0), want[i]);
        }
        d.due(call + ": the end", q.held(bag, want.length, 0), INDEX);
    }

    private static void promise34Move() {
        PoplarQueue q = numbered(4);
        q.hold(0, 2, 2, 0);
        q.bag(1, 3);
        q.hold(1, 1, 0, 99);
        d.due("move to another bag", q.move(0, 1, 1, 0, 2), 2);
        slots("move to another bag", q, 1, 11, EMPTY, EMPTY);
        slots("the bag that it came from", q, 0, 10, 11, EMPTY, 13);
        q.wrap(1, 0);
        d.due("a slot has its own holder", q.held(0, 1, 0), 11);
        d.due("wrapped in one bag", q.held(1, 0, 2), 1);
        d.due("move of none", q.move(0, 4, 1, 3, 0), 0);
    }

    private static void promise34MoveWithinABag() {
        PoplarQueue q = numbered(5);
        d.due("move backward", q.move(0, 0, 0, 1, 4), 4);
        slots("move backward", q, 0, 10, 10, 11, 12, 13);
        PoplarQueue up = numbered(5);
        d.due("move forward", up.move(0, 2, 0, 0, 3), 3);
        slots("move forward", up, 0, 12, 13, 14, 13, 14);
        PoplarQueue same = numbered(3);
        d.due("move onto itself", same.move(0, 0, 0, 0, 3), 3);
        slots("move onto itself", same, 0, 10, 11, 12);
    }

    private static void promise34MoveRefused() {
        PoplarQueue q = numbered(4);
        d.due("move to a missing bag", q.move(0, 9, 1, 0, 1), NULL);
        d.due("move from a missing bag", q.move(1, 9, 0, 0, 1), NULL);
        d.due("move to bag 3", q.move(1, 0, 3, 0, 1), UNKNOWN);
        d.due("move from bag -1", q.move(-1, 0, 1, 0, 1), UNKNOWN);
        q.bag(1, 2);
        int[][] outside = {{-1, 0, 1}, {0, -1, 1}, {0, 0, -1}, {3, 0, 2}, {0, 1, 2}, {0, 0, 3}, {5, 0, 0}, {0, 3, 0},
            {MOST, 0, 1}, {1, 0, MOST}, {0, MOST, 1}, {LEAST, 0, 0}, {0, 0, LEAST}, {MOST, MOST, MOST}};
        for (int[] a : outside) {
            d.due("move of " + a[0] + " " + a[1] + " " + a[2], q.move(0, a[0], 1, a[1], a[2]), INDEX);
        }
        slots("what is refused changes nothing", q, 1, EMPTY, EMPTY);
        slots("what is refused changes nothing", q, 0, 10, 11, 12, 13);
    }

    private static void promise35Drop() {
        PoplarQueue q = numbered(4);
        q.hold(0, 1, 2, 0);
        d.due("drop(0)", q.drop(0), 3);
        d.due("drop(0) again", q.drop(0), NULL);
        d.due("held of it", q.held(0, 0, 0), NULL);
        d.due("drop(1)", q.drop(1), NULL);
        d.due("drop(3)", q.drop(3), UNKNOWN);
        d.due("drop(-1)", q.drop(-1), UNKNOWN);
        q.bag(0, 4);
        d.due("drop of a new one", q.drop(0), 0);
        q.bag(2, 0);
        d.due("drop of one of no slots", q.drop(2), 0);
    }

    private static void promise36Count() {
        PoplarQueue q = Due.told("poplar 0 1;stump 0 2;gap 0;old 1 3;law 0");
        q.night();
        q.home(1);
        q.seen(3, 1);
        q.seen(4, 1);
        q.bag(1, 4);
        Due.write(q, "law 1");
        int[] want = {3, 2, 1, 0, 1, 1, 1, 2, 2, 1, 2, 5};
        for (int what = 0; what < 12; what++) {
            d.due("count(" + what + ")", q.count(what), want[what]);
        }
        d.due("count(12)", q.count(12), OUTSIDE);
        d.due("count(-1)", q.count(-1), OUTSIDE);
        q.law(2);
        d.due("count(3) of another law", q.count(3), 2);
    }
}
