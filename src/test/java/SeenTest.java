/** Promises 24 to 28: what was seen. */
public final class SeenTest {
    private static final Due d = new Due("SeenTest");
    /** Called by the nights 1 to 4: by turns 1 1 2 3, by the other laws 1 2 2 3. */
    private static final String THREE = "poplar 0 5;pusher 0 9;old 1 3";

    public static void main(String[] args) {
        promise24Seen();
        promise25Forget();
        promise26Laws();
        promise27Kinds();
        promise28Door();
        promise28DoorRefused();
        d.end();
    }

    private static void promise24Seen() {
        PoplarQueue q = new PoplarQueue();
        int[][] outside = {{0, 0}, {21, 0}, {-1, 0}, {1, -1}, {1, 21}};
        for (int[] pair : outside) {
            d.due("seen(" + pair[0] + ", " + pair[1] + ")", q.seen(pair[0], pair[1]), PoplarQueue.OUTSIDE);
        }
        d.due("seen(1, 0)", q.seen(1, 0), 1);
        d.due("seen(20, 20)", q.seen(20, 20), 2);
        for (int n = 3; n <= 6; n++) {
            d.due("seen", q.seen(1, 0), n);
        }
        d.due("seen of a seventh", q.seen(1, 0), PoplarQueue.FULL);
        d.due("seen(0, 0) when full", q.seen(0, 0), PoplarQueue.OUTSIDE);
        d.due("count(8)", q.count(8), 6);
    }

    private static void promise25Forget() {
        PoplarQueue q = Due.told(THREE);
        d.due("forget of nothing", q.forget(), 0);
        q.seen(1, 9);
        q.seen(1, 8);
        d.due("laws of what cannot be", q.laws(), 0);
        d.due("forget", q.forget(), 2);
        d.due("laws of nothing seen", q.laws(), 7);
        d.due("seen behind forget", q.seen(2, 1), 1);
    }

    private static void promise26Laws() {
        PoplarQueue q = Due.told(THREE + ";law 1");
        d.due("laws of nothing seen", q.laws(), 7);
        q.seen(3, 2);
        d.due("laws of (3, 2)", q.laws(), 7);
        q.seen(2, 1);
        d.due("laws of (2, 1)", q.laws(), 1);
        q.seen(2, 2);
        d.due("laws of both", q.laws(), 0);
        q.forget();
        q.seen(2, 2);
        d.due("laws of (2, 2)", q.laws(), 6);
        q.seen(20, 3);
        d.due("laws of (20, 3)", q.laws(), 6);
        q.night();
        d.due("laws from now on", q.laws(), 0);
        q.forget();
        q.seen(20, 2);
        d.due("laws of (20, 2) from now on", q.laws(), 7);
    }

    private static void promise27Kinds() {
        PoplarQueue q = Due.told(THREE);
        d.due("kinds of nothing seen", q.kinds(2), 31);
        q.seen(2, 1);
        d.due("kinds of (2, 1)", q.kinds(2), 28);
        q.seen(4, 3);
        d.due("kinds of (4, 3)", q.kinds(2), 4);
        d.due("kinds(3)", q.kinds(3), PoplarQueue.UNKNOWN);
        d.due("kinds(-1)", q.kinds(-1), PoplarQueue.UNKNOWN);
        q.night();
        d.due("kinds of a called one", q.kinds(1), PoplarQueue.NOT);
        q.home(0);
        d.due("kinds of one at home", q.kinds(0), PoplarQueue.NOT);
        PoplarQueue bid = Due.told("old 0 1;stump 1 1");
        bid.night();
        bid.seen(2, 1);
        d.due("kinds, bid as often as it is", bid.kinds(0), 7);
        bid.forget();
        bid.seen(2, 0);
        bid.seen(4, 1);
        d.due("kinds of the farmer's third bid", bid.kinds(0), 16);
        PoplarQueue pusher = Due.told("old 0 1;poplar 0 9;law 1");
        pusher.seen(1, 1);
        d.due("kinds by what only a pusher does", pusher.kinds(1), 2);
    }

    private static void doorOf(int n, int q, int m, int above, int below) {
        PoplarQueue x = new PoplarQueue();
        String call = "door(" + n + ", " + q + ", " + m + ", ";
        d.due(call + "0)", x.door(n, q, m, 0), above);
        d.due(call + "1)", x.door(n, q, m, 1), below);
    }

    private static void promise28Door() {
        doorOf(0, 0, 0, 1, 1);
        doorOf(0, 10, 1, 0, 1);
        doorOf(1, 10, 1, 1, 1);
        doorOf(1, 5, 1, 1, 2);
        doorOf(2, 5, 1, 3, 4);
        doorOf(2, 2, 2, 1, 25);
        doorOf(3, 5, 4, 0, 1);
        doorOf(5, 0, 1, 0, 1);
        doorOf(9, 10, 9, 1, 1);
        doorOf(9, 1, 9, 1, 1000000000);
        doorOf(9, 1, 1, 612579511, 1000000000);
        doorOf(9, 3, 4, 135170451, 500000000);
        doorOf(9, 9, 0, 1, 1);
    }

    private static void promise28DoorRefused() {
        PoplarQueue x = new PoplarQueue();
        int[][] outside = {{10, 0, 0, 0}, {-1, 0, 0, 0}, {0, 11, 0, 0}, {0, -1, 0, 0}, {0, 0, 10, 0}, {0, 0, -1, 0},
            {0, 0, 0, 2}, {0, 0, 0, -1}};
        for (int[] a : outside) {
            d.due("door of " + a[0] + " " + a[1] + " " + a[2] + " " + a[3], x.door(a[0], a[1], a[2], a[3]), PoplarQueue.OUTSIDE);
        }
    }
}
