/** Promises 18 to 23: what is foretold. */
public final class ForetoldTest {
    private static final Due d = new Due("ForetoldTest");
    /** By turns: the pusher in night 1, the poplar in night 3, the old one in night 4. */
    private static final String THREE = "poplar 0 5;pusher 0 9;old 1 3";

    public static void main(String[] args) {
        promise18When();
        promise19Where();
        promise20Next();
        promise21Best();
        promise21BestInTheLastNight();
        promise21BestRefused();
        promise22Send();
        promise22SendRefused();
        promise23Waits();
        nothingChanges();
        d.end();
    }

    private static void promise18When() {
        PoplarQueue q = Due.told(THREE + ";stump 1 0");
        d.due("when(0)", q.when(0), 3);
        d.due("when(1)", q.when(1), 1);
        d.due("when(2)", q.when(2), 4);
        d.due("when of a stump", q.when(3), PoplarQueue.NONE);
        d.due("when(4)", q.when(4), PoplarQueue.UNKNOWN);
        d.due("when(-1)", q.when(-1), PoplarQueue.UNKNOWN);
        q.night();
        d.due("when of a called one", q.when(1), PoplarQueue.NOT);
        d.due("when(2) a night later", q.when(2), 3);
        q.home(0);
        d.due("when of one at home", q.when(0), PoplarQueue.NOT);
        d.due("when(2) behind a gap of the other line", q.when(2), 3);
        // line 0 has its way but each second night: 11 farmers of 3 bids, the last one is called in night 65
        PoplarQueue far = Due.told("stump 1 0");
        for (int i = 0; i < 11; i++) {
            far.join(0, 4, 0);
        }
        d.due("when of the tenth farmer", far.when(10), 59);
        d.due("when of the eleventh, beyond 60 nights", far.when(11), PoplarQueue.NONE);
        far.night();
        far.night();
        far.night();
        far.night();
        d.due("when of the eleventh, by then", far.when(11), PoplarQueue.NONE);
        far.night();
        d.due("when of the eleventh, in its 60th night", far.when(11), 60);
    }

    private static void promise19Where() {
        PoplarQueue q = Due.told(THREE + ";stump 1 7");
        d.due("where(0, 0)", q.where(0, 0), 0);
        d.due("where(1, 0)", q.where(1, 0), 1);
        d.due("where(2, 0)", q.where(2, 0), 100);
        d.due("where(3, 0)", q.where(3, 0), 101);
        d.due("where(1, 1)", q.where(1, 1), PoplarQueue.NONE);
        d.due("where(0, 2)", q.where(0, 2), 0);
        d.due("where(0, 3)", q.where(0, 3), PoplarQueue.NONE);
        d.due("where(3, 3)", q.where(3, 3), 101);
        d.due("where(3, 60)", q.where(3, 60), 100);
        d.due("where(4, 99)", q.where(4, 99), PoplarQueue.UNKNOWN);
        d.due("where(-1, 0)", q.where(-1, 0), PoplarQueue.UNKNOWN);
        d.due("where(0, 61)", q.where(0, 61), PoplarQueue.OUTSIDE);
        d.due("where(0, -1)", q.where(0, -1), PoplarQueue.OUTSIDE);
        q.night();
        d.due("where of a called one", q.where(1, 0), PoplarQueue.NONE);
        q.home(0);
        d.due("where of one at home", q.where(0, 0), PoplarQueue.NONE);
        PoplarQueue pushed = Due.told("stump 0 1;poplar 0 1;poplar 0 1;pusher 0 2;poplar 1 1");
        d.due("where of one that pushes", pushed.where(3, 1), 1);
        d.due("where of one that is pushed", pushed.where(2, 1), 2);
    }

    private static void promise20Next() {
        PoplarQueue q = Due.told(THREE + ";stump 1 0");
        int[] order = {1, 0, 2};
        for (int k = 0; k < 12; k++) {
            d.due("next(" + k + ")", q.next(k), k < 3 ? order[k] : PoplarQueue.NONE);
        }
        d.due("next(12)", q.next(12), PoplarQueue.OUTSIDE);
        d.due("next(-1)", q.next(-1), PoplarQueue.OUTSIDE);
        q.night();
        d.due("next(0) a night later", q.next(0), 0);
        PoplarQueue far = Due.told("stump 1 0");
        for (int i = 0; i < 11; i++) {
            far.join(0, 4, 0);
        }
        d.due("next(9) within 60 nights", far.next(9), 10);
        d.due("next(10) beyond them", far.next(10), PoplarQueue.NONE);
        for (int i = 0; i < 4; i++) {
            far.night();
        }
        d.due("next(10) in the 61st night", far.next(10), PoplarQueue.NONE);
        far.night();
        d.due("next(9) in the 60th night, one having been called", far.next(9), 11);
    }

    private static void promise21Best() {
        d.due("best of a new plain", new PoplarQueue().best(0, 0), 0);
        d.due("best of a stump", new PoplarQueue().best(3, 0), PoplarQueue.NONE);
        d.due("best of a farmer", new PoplarQueue().best(4, 99), 0);
        PoplarQueue even = Due.told("poplar 0 1;poplar 0 1;poplar 1 1");
        d.due("best of as soon", even.best(0, 0), 0);
        PoplarQueue q = Due.told("poplar 0 1;poplar 0 1;poplar 0 1;poplar 1 1");
        d.due("best of the shorter line", q.best(0, 0), 1);
        d.due("best of a pusher", q.best(1, 9), 1);
        PoplarQueue blocked = Due.told("poplar 0 1;stump 1 99;gap 1;law 0");
        d.due("best beside a line that is blocked", blocked.best(0, 0), 0);
        PoplarQueue both = Due.told("stump 0 1;gap 0;stump 1 99;gap 1");
        d.due("best where both are blocked", both.best(0, 0), PoplarQueue.NONE);
        PoplarQueue roots = Due.told("poplar 0 50;poplar 1 60;law 2");
        d.due("best by roots", roots.best(0, 70), 1);
        d.due("best by roots of a pusher", roots.best(1, 60), 0);
    }

    /** Line 0 has its way in each second night, in 29 of which its gaps and farmers go. */
    private static void promise21BestInTheLastNight() {
        PoplarQueue q = Due.told("gap 0;gap 0;gap 0;stump 1 0;gap 1");
        for (int i = 0; i < 9; i++) {
            q.join(0, 4, 0);
        }
        q.night();
        d.due("best of one called in night 60", q.best(0, 0), 0);
        d.due("best of one called in night 62", q.best(2, 0), PoplarQueue.NONE);
    }

    private static void promise21BestRefused() {
        String twelveGaps = "gap 0;".repeat(12);
        PoplarQueue gaps = Due.told(twelveGaps + "stump 1 1");
        d.due("best where line 0 has 12 places", gaps.best(0, 0), 1);
        Due.tell(gaps, "gap 1;".repeat(10) + "gap 1");
        d.due("best where both have 12 places", gaps.best(0, 0), PoplarQueue.NONE);
        PoplarQueue full = new PoplarQueue();
        for (int i = 0; i < 12; i++) {
            full.join(i % 2, 0, 0);
        }
        d.due("best of 12 trees", full.best(0, 0), PoplarQueue.FULL);
        d.due("best(5, 0)", full.best(5, 0), PoplarQueue.OUTSIDE);
        d.due("best(-1, 0)", full.best(-1, 0), PoplarQueue.OUTSIDE);
        d.due("best(0, 100)", full.best(0, 100), PoplarQueue.OUTSIDE);
        d.due("best(0, -1)", full.best(0, -1), PoplarQueue.OUTSIDE);
    }

    private static void promise22Send() {
        PoplarQueue q = Due.told("old 0 1;old 0 1;old 0 1;poplar 0 2");
        d.due("send(3, 7)", q.send(3, 7), 0);
        d.due("send(3, 6)", q.send(3, 6), 1);
        d.due("send(3, 5)", q.send(3, 5), 3);
        d.due("send(3, 4)", q.send(3, 4), PoplarQueue.NONE);
        d.due("send(0, 2)", q.send(0, 2), 0);
        d.due("send(0, 1)", q.send(0, 1), PoplarQueue.NONE);
        PoplarQueue roots = Due.told("stump 0 9;poplar 1 5;law 2");
        d.due("send out of the other line", roots.send(1, 1), 1);
        PoplarQueue later = Due.told("poplar 0 1;poplar 0 1;old 0 1;poplar 0 1;old 0 1;poplar 0 3");
        d.due("send of the one that helps", later.send(5, 7), 4);
        d.due("send of the two that help", later.send(5, 6), 20);
        later.home(2);
        d.due("send of none that is at home", later.send(5, 6), 16);
        d.due("send of none too many", later.send(5, 5), PoplarQueue.NONE);
    }

    private static void promise22SendRefused() {
        PoplarQueue q = Due.told("poplar 0 1;stump 0 1");
        d.due("send(2, 0)", q.send(2, 0), PoplarQueue.UNKNOWN);
        d.due("send(-1, 1)", q.send(-1, 1), PoplarQueue.UNKNOWN);
        d.due("send(0, 0)", q.send(0, 0), PoplarQueue.OUTSIDE);
        d.due("send(0, 61)", q.send(0, 61), PoplarQueue.OUTSIDE);
        d.due("send(0, 60)", q.send(0, 60), 0);
        d.due("send of a stump", q.send(1, 60), PoplarQueue.NONE);
        q.night();
        d.due("send of a called one", q.send(0, 60), PoplarQueue.NOT);
        d.due("send of a called one, in 61", q.send(0, 61), PoplarQueue.OUTSIDE);
        q.home(1);
        d.due("send of one at home", q.send(1, 60), PoplarQueue.NOT);
    }

    private static void promise23Waits() {
        d.due("waits of none", new PoplarQueue().waits(2), 0);
        PoplarQueue q = Due.told(THREE);
        d.due("waits(0)", q.waits(0), 8);
        d.due("waits(1)", q.waits(1), 7);
        d.due("waits(2)", q.waits(2), 7);
        d.due("waits(3)", q.waits(3), PoplarQueue.OUTSIDE);
        d.due("waits(-1)", q.waits(-1), PoplarQueue.OUTSIDE);
        q.join(1, 3, 0);
        d.due("waits with a stump", q.waits(0), 68);
        q.home(0);
        d.due("waits with one at home", q.waits(0), 67);
        q.night();
        d.due("waits when its gap has gone", q.waits(0), 65);
        q.night();
        q.night();
        d.due("waits with one called", q.waits(0), 61);
    }

    private static void nothingChanges() {
        PoplarQueue q = Due.told(THREE);
        q.night();
        String ahead = Look.atLines(q);
        q.when(0);
        q.where(0, 60);
        q.next(2);
        q.best(4, 3);
        q.send(0, 1);
        q.waits(2);
        q.laws();
        q.kinds(0);
        d.stand("what is foretold", q, ahead);
        d.due("the law", q.count(3), 0);
        d.due("the night", q.count(4), 1);
        d.due("the turn", q.count(5), 1);
        d.due("called", q.count(6), 2);
        d.due("at home", q.count(7), 0);
        d.due("to undo", q.count(10), 1);
        d.due("trees", q.count(0), 3);
        d.due("kind of 0", q.tree(0, 0), 0);
        d.due("bids of 2", q.tree(2, 5), 0);
    }
}
