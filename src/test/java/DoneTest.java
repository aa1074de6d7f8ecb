/** Promises 9 to 17: what is done. */
public final class DoneTest {
    private static final Due d = new Due("DoneTest");

    public static void main(String[] args) {
        promise9Pushing();
        promise9Calling();
        promise9Turns();
        promise9Longer();
        promise9Roots();
        promise9Refused();
        promise10Join();
        promise11Home();
        promise12Back();
        promise12BackAtTheEnd();
        promise13Fell();
        promise14Law();
        promise15Undo();
        promise15UndoOfEach();
        promise16Keep();
        promise17Again();
        d.end();
    }

    /** One night of a text: who is called, and how they stand then. */
    private static void nightOf(String text, int want, String stand) {
        PoplarQueue q = Due.told(text);
        d.due("night of " + text, q.night(), want);
        d.stand("night of " + text, q, stand);
    }

    private static void nights(PoplarQueue q, String name, int... want) {
        for (int i = 0; i < want.length; i++) {
            d.due(name + ", night " + (i + 1), q.night(), want[i]);
        }
    }

    private static void promise9Pushing() {
        nightOf("stump 1 0;poplar 0 1;pusher 0 2;pusher 0 3", 2, "3 1 | 0");
        nightOf("poplar 0 1;poplar 0 1;pusher 0 9", 0, "2 1 |");
        nightOf("poplar 0 5;pusher 0 5", 0, "1 |");
        nightOf("pusher 0 5;pusher 0 6", 1, "0 |");
        nightOf("pusher 0 6;pusher 0 5", 0, "1 |");
        nightOf("old 0 0;pusher 0 9", 1, "0 |");
        nightOf("stump 0 0;pusher 0 9", 1, "0 |");
        nightOf("stump 0 9;gap 0;pusher 0 9", 99, "0 90 1 |");
        nightOf("poplar 0 1;poplar 1 1;pusher 1 2", 0, "| 2 1");
        nightOf("poplar 0 0;old 0 9;stump 0 9", 0, "1 2 |");
        nightOf("stump 0 50;poplar 0 3;pusher 0 7;poplar 0 1;pusher 0 2", 2, "0 1 4 3 |");
        PoplarQueue q = Due.told("poplar 0 0;pusher 0 9");
        q.fell(0);
        nights(q, "a farmer is not pushed", 99, 99, 0, 1);
    }

    private static void promise9Calling() {
        nightOf("gap 0;poplar 0 1", 99, "0 |");
        nightOf("stump 0 1;stump 0 1", 99, "0 1 |");
        nightOf("stump 0 1;stump 0 1;poplar 0 1;poplar 0 1", 2, "0 1 3 |");
        nightOf("stump 0 1;gap 0;poplar 0 1", 99, "0 90 1 |");
        PoplarQueue q = Due.told("stump 0 1;old 0 1;poplar 0 1");
        d.due("night of one bid", q.night(), 99);
        d.due("bids of the old one", q.tree(1, 5), 1);
        d.due("bids of the stump", q.tree(0, 5), 0);
        d.due("bids of the one behind", q.tree(2, 5), 0);
        d.due("night of two bids", q.night(), 1);
        d.due("bids of the old one then", q.tree(1, 5), 2);
        d.due("called", q.count(6), 2);
        d.due("the night", q.count(4), 2);
        PoplarQueue farmer = Due.told("stump 0 5");
        farmer.join(0, 4, 1);
        nights(farmer, "a farmer behind a stump", 99, 99, 1, 99);
    }

    private static void promise9Turns() {
        PoplarQueue q = Due.told("poplar 0 1;poplar 0 1;poplar 0 1;poplar 1 1;poplar 1 1");
        nights(q, "turns", 0, 3, 1, 4, 2);
        PoplarQueue gap = Due.told("gap 0;poplar 1 1");
        d.due("night of a gap", gap.night(), 99);
        d.due("the turn behind a gap", gap.count(5), 1);
        PoplarQueue one = Due.told("poplar 1 1;poplar 1 2");
        d.due("night of line 1 alone", one.night(), 0);
        d.due("the turn is line 0's still", one.count(5), 0);
        PoplarQueue away = Due.told("poplar 0 1;poplar 0 1");
        d.due("night of line 0 alone", away.night(), 0);
        d.due("the turn is line 1's", away.count(5), 1);
        d.due("night of line 0 out of turn", away.night(), 1);
        d.due("the turn is line 1's still", away.count(5), 1);
    }

    private static void promise9Longer() {
        nightOf("poplar 0 1;poplar 1 1;law 1", 0, "| 1");
        nightOf("poplar 0 1;poplar 1 1;gap 1;law 1", 1, "0 | 90");
        PoplarQueue q = Due.told("poplar 0 1;poplar 0 1;poplar 1 1;poplar 1 1;poplar 1 1;law 1");
        nights(q, "longer", 2, 0, 3, 1, 4);
        d.due("the turn by another law", q.count(5), 0);
    }

    private static void promise9Roots() {
        nightOf("poplar 0 4;poplar 1 4;law 2", 0, "| 1");
        nightOf("poplar 0 4;poplar 1 5;law 2", 1, "0 |");
        nightOf("gap 0;poplar 0 9;poplar 1 0;law 2", 1, "90 0 |");
        nightOf("poplar 1 0;law 2", 0, "|");
        nightOf("gap 0;gap 1;law 2", 99, "| 90");
        nightOf("stump 0 7;poplar 0 1;poplar 1 6;law 2", 1, "0 | 2");
        nightOf("poplar 0 1;pusher 0 7;poplar 1 6;law 2", 1, "0 | 2");
        // by the words: line 0 without places counts as the gap does, and of as much it is line 0
        nightOf("gap 1;poplar 1 9;law 2", 99, "| 90 0");
        PoplarQueue q = Due.told("poplar 1 9;law 2");
        q.night();
        d.due("the turn by roots", q.count(5), 0);
    }

    private static void promise9Refused() {
        PoplarQueue q = Due.told("poplar 0 1");
        nights(q, "the last one", 0);
        d.due("night of no places", q.night(), PoplarQueue.NOT);
        d.due("the night stays", q.count(4), 1);
        PoplarQueue gap = Due.told("gap 1");
        nights(gap, "a gap is a place", 99);
        d.due("night of no places", gap.night(), PoplarQueue.NOT);
        PoplarQueue stump = Due.told("stump 0 1");
        for (int i = 0; i < 999; i++) {
            d.due("night of a stump", stump.night(), 99);
        }
        d.due("night of night 999", stump.night(), PoplarQueue.FULL);
        d.due("it is night 999", stump.count(4), 999);
    }

    private static void promise10Join() {
        PoplarQueue q = new PoplarQueue();
        for (int tree = 0; tree < 12; tree++) {
            d.due("join", q.join(tree % 2, tree % 5, tree * 9), tree);
        }
        d.stand("join", q, "0 2 4 6 8 10 | 1 3 5 7 9 11");
        d.due("kind of 9", q.tree(9, 0), 4);
        d.due("root of 11", q.tree(11, 1), 99);
        d.due("bids of 11", q.tree(11, 5), 0);
        d.due("join of a thirteenth", q.join(0, 0, 0), PoplarQueue.FULL);
        d.due("join(2, 9, 0)", q.join(2, 9, 0), PoplarQueue.UNKNOWN);
        d.due("join(-1, 0, 0)", q.join(-1, 0, 0), PoplarQueue.UNKNOWN);
        d.due("join(0, 5, 0)", q.join(0, 5, 0), PoplarQueue.OUTSIDE);
        d.due("join(0, -1, 0)", q.join(0, -1, 0), PoplarQueue.OUTSIDE);
        d.due("join(0, 0, 100)", q.join(0, 0, 100), PoplarQueue.OUTSIDE);
        d.due("join(0, 0, -1)", q.join(0, 0, -1), PoplarQueue.OUTSIDE);
        PoplarQueue gaps = Due.told("gap 1;".repeat(11) + "gap 1");
        d.due("join of a line of 12 places", gaps.join(1, 0, 0), PoplarQueue.FULL);
        d.due("join of the other line", gaps.join(0, 0, 0), 0);
    }

    private static void promise11Home() {
        PoplarQueue q = Due.told("poplar 0 1;poplar 0 2;stump 1 3;poplar 0 4");
        d.due("home(1)", q.home(1), 1);
        d.due("home(2)", q.home(2), 0);
        d.due("home(3)", q.home(3), 2);
        d.stand("home", q, "0 51 53 | 52");
        d.due("at home", q.count(7), 14);
        d.due("home of one at home", q.home(1), PoplarQueue.NOT);
        q.night();
        d.due("home of a called one", q.home(0), PoplarQueue.NOT);
        d.due("home(4)", q.home(4), PoplarQueue.UNKNOWN);
        d.due("home(-1)", q.home(-1), PoplarQueue.UNKNOWN);
    }

    private static void promise12Back() {
        PoplarQueue q = Due.told("poplar 0 1;old 0 2;poplar 0 3");
        d.due("back of one that stands", q.back(1), PoplarQueue.NOT);
        d.due("back(3)", q.back(3), PoplarQueue.UNKNOWN);
        d.due("back(-1)", q.back(-1), PoplarQueue.UNKNOWN);
        q.home(1);
        q.night();
        d.stand("a night", q, "51 2 |");
        d.due("back where the gap is by now", q.back(1), 0);
        d.stand("back", q, "1 2 |");
        d.due("back of a called one", q.back(0), PoplarQueue.NOT);
        d.due("a bid", q.night(), 99);
        q.home(1);
        q.back(1);
        d.due("bids as they were", q.tree(1, 5), 1);
        d.due("the second bid", q.night(), 1);
    }

    private static void promise12BackAtTheEnd() {
        PoplarQueue q = Due.told("old 1 1;poplar 1 2;poplar 0 9");
        q.night();
        q.night();
        d.due("one bid", q.tree(0, 5), 1);
        q.home(0);
        d.due("its gap goes", q.night(), 99);
        d.stand("its gap has gone", q, "| 1");
        d.due("back at the end of its line", q.back(0), 1);
        d.stand("back", q, "| 1 0");
        d.due("bid 0 times", q.tree(0, 5), 0);

        PoplarQueue full = Due.told("poplar 0 1" + ";gap 0".repeat(11));
        full.home(0);
        full.night();
        full.join(0, 3, 3);
        d.due("back to a line of 12 places", full.back(0), PoplarQueue.FULL);
        d.due("still at home", full.tree(0, 4), 2);
        full.night();
        d.due("back to a line of 11 places", full.back(0), 11);

        PoplarQueue own = Due.told("stump 0 1;poplar 0 1" + ";gap 0".repeat(10));
        own.home(1);
        d.due("back to its own gap of 12 places", own.back(1), 1);
    }

    private static void promise13Fell() {
        PoplarQueue q = Due.told("poplar 0 1;pusher 0 22;old 1 3;stump 1 4");
        d.due("fell of a poplar", q.fell(0), 0);
        d.due("fell of a pusher", q.fell(1), 1);
        d.due("fell of a stump", q.fell(3), 3);
        d.due("kind then", q.tree(1, 0), 4);
        d.due("root then", q.tree(1, 1), 22);
        d.due("fell of a farmer", q.fell(0), PoplarQueue.NOT);
        q.home(2);
        d.due("fell of one at home", q.fell(2), PoplarQueue.NOT);
        q.back(2);
        q.night();
        q.night();
        d.due("bids ahead", q.tree(2, 5), 1);
        d.due("fell of an old one", q.fell(2), 2);
        d.due("bids behind", q.tree(2, 5), 0);
        d.due("fell(4)", q.fell(4), PoplarQueue.UNKNOWN);
        d.due("fell(-1)", q.fell(-1), PoplarQueue.UNKNOWN);
        PoplarQueue called = Due.told("poplar 0 1");
        called.night();
        d.due("fell of a called one", called.fell(0), PoplarQueue.NOT);
    }

    private static void promise14Law() {
        PoplarQueue q = Due.told("poplar 0 1;stump 1 1;law 1");
        d.due("law(1)", q.law(1), PoplarQueue.NOT);
        d.due("law(2)", q.law(2), 1);
        d.due("law(0)", q.law(0), 2);
        q.night();
        d.due("law(1) of turns", q.law(1), 0);
        d.due("the turn as it is", q.count(5), 1);
        d.due("the law", q.count(3), 1);
        d.due("law(3)", q.law(3), PoplarQueue.OUTSIDE);
        d.due("law(-1)", q.law(-1), PoplarQueue.OUTSIDE);
    }

    private static void promise15Undo() {
        PoplarQueue q = Due.told("stump 0 1;stump 1 1");
        d.due("undo of nothing", q.undo(), PoplarQueue.NOT);
        for (int i = 1; i <= 10; i++) {
            q.night();
            d.due("to undo behind " + i, q.count(10), Math.min(i, 8));
        }
        q.night();
        q.law(0);
        d.due("what is refused cannot be undone", q.count(10), 8);
        for (int left = 7; left >= 0; left--) {
            d.due("undo", q.undo(), left);
            d.due("the night behind undo", q.count(4), 3 + left);
        }
        d.due("undo of a ninth", q.undo(), PoplarQueue.NOT);
        d.due("the night stays", q.count(4), 3);
        q.night();
        d.due("to undo again", q.count(10), 1);
        d.due("undo again", q.undo(), 0);
    }

    private static void promise15UndoOfEach() {
        PoplarQueue q = Due.told("old 0 1;poplar 1 1;poplar 0 2");
        String first = Look.atLines(q);
        q.night();
        d.due("bid", q.tree(0, 5), 1);
        q.undo();
        d.due("bid no more", q.tree(0, 5), 0);
        d.due("the turn as it was", q.count(5), 0);
        q.join(1, 1, 5);
        q.undo();
        d.due("the one that joined is not there", q.tree(3, 0), PoplarQueue.UNKNOWN);
        q.home(2);
        q.back(2);
        q.undo();
        d.due("at home again", q.tree(2, 4), 2);
        q.undo();
        d.due("it stands again", q.tree(2, 4), 0);
        q.fell(0);
        q.undo();
        d.due("no farmer", q.tree(0, 0), 2);
        q.law(2);
        q.undo();
        d.due("the law as it was", q.count(3), 0);
        d.stand("all undone", q, first);
        q.seen(3, 1);
        q.bag(0, 4);
        q.keep(0);
        Due.write(q, "law");
        d.due("none of these can be undone", q.undo(), PoplarQueue.NOT);
        q.night();
        q.undo();
        d.due("seen stays", q.count(8), 1);
        d.due("bags stay", q.count(9), 1);
        d.due("the text stays", q.count(11), 3);
        d.due("what is kept stays", q.again(0), 0);
    }

    private static void promise16Keep() {
        PoplarQueue q = Due.told("old 0 1;poplar 1 2");
        d.due("keep(0)", q.keep(0), 0);
        q.night();
        d.due("keep(1)", q.keep(1), 1);
        d.due("keep(2)", q.keep(2), PoplarQueue.UNKNOWN);
        d.due("keep(-1)", q.keep(-1), PoplarQueue.UNKNOWN);
        d.due("keep undoes nothing", q.count(10), 1);
        q.night();
        d.due("keep(0) anew", q.keep(0), 2);
        q.night();
        d.due("again(0) is the later one", q.again(0), 2);
        d.stand("again(0)", q, "0 |");
        d.due("again(1)", q.again(1), 1);
        d.stand("again(1)", q, "0 | 1");
    }

    private static void promise17Again() {
        PoplarQueue q = Due.told("old 0 1;poplar 1 2;stump 1 7");
        d.due("again of nothing kept", q.again(0), PoplarQueue.NOT);
        d.due("again(2)", q.again(2), PoplarQueue.UNKNOWN);
        d.due("again(-1)", q.again(-1), PoplarQueue.UNKNOWN);
        q.night();
        q.law(1);
        q.home(2);
        q.keep(1);
        d.due("again of the other", q.again(0), PoplarQueue.NOT);
        q.back(2);
        q.law(2);
        q.fell(0);
        q.join(0, 0, 50);
        q.night();
        q.seen(4, 1);
        q.bag(1, 2);
        d.due("again(1)", q.again(1), 1);
        d.stand("again(1)", q, "0 | 1 52");
        d.due("trees", q.count(0), 3);
        d.due("law", q.count(3), 1);
        d.due("turn", q.count(5), 1);
        d.due("called", q.count(6), 0);
        d.due("at home", q.count(7), 4);
        d.due("kind", q.tree(0, 0), 2);
        d.due("bids", q.tree(0, 5), 1);
        d.due("nothing can be undone", q.undo(), PoplarQueue.NOT);
        d.due("seen is as it was", q.count(8), 1);
        d.due("bags are as they were", q.count(9), 1);
        q.night();
        d.due("again once more", q.again(1), 1);
    }
}
