/** Promises 1 to 8: what is told. */
public final class ToldTest {
    private static final Due d = new Due("ToldTest");

    public static void main(String[] args) {
        promise1NewObject();
        promise2Write();
        promise3Erase();
        promise4Fault();
        promise4FaultsByWhatWasTold();
        promise4Clauses();
        promise5Plain();
        promise5WhatEarlierTextsTold();
        promise5AllElseIsGone();
        promise6Tree();
        promise7At();
        promise8As();
        d.end();
    }

    private static void promise1NewObject() {
        PoplarQueue q = new PoplarQueue();
        for (int what = 0; what <= 11; what++) {
            d.due("count(" + what + ") of a new object", q.count(what), 0);
        }
        d.due("tree(0, 0) of a new object", q.tree(0, 0), PoplarQueue.UNKNOWN);
        d.due("at(1, 0) of a new object", q.at(1, 0), PoplarQueue.UNKNOWN);
        for (int bag = 0; bag < 3; bag++) {
            d.due("drop(" + bag + ") of a new object", q.drop(bag), PoplarQueue.NULL);
        }
    }

    private static void promise2Write() {
        PoplarQueue q = new PoplarQueue();
        d.due("write(-1)", q.write(-1), PoplarQueue.OUTSIDE);
        d.due("write(256)", q.write(256), PoplarQueue.OUTSIDE);
        d.due("write(0)", q.write(0), 1);
        d.due("write(255)", q.write(255), 2);
        for (int n = 3; n <= 200; n++) {
            d.due("write to " + n, q.write('a'), n);
        }
        d.due("write of letter 201", q.write('a'), PoplarQueue.FULL);
        d.due("write(256) when full", q.write(256), PoplarQueue.OUTSIDE);
        d.due("count(11) when full", q.count(11), 200);
    }

    private static void promise3Erase() {
        PoplarQueue q = new PoplarQueue();
        d.due("erase of nothing", q.erase(), 0);
        Due.write(q, "law 1");
        d.due("erase of law 1", q.erase(), 5);
        d.due("count(11) behind erase", q.count(11), 0);
        d.due("write behind erase", q.write('x'), 1);
        d.due("erase of x", q.erase(), 1);
    }

    private static void faultOf(String text, int want) {
        PoplarQueue q = new PoplarQueue();
        Due.write(q, text);
        d.due("fault of '" + text + "'", q.fault(), want);
        d.due("plain of '" + text + "'", q.plain() == PoplarQueue.NOT ? 1 : 0, want == PoplarQueue.NONE ? 0 : 1);
    }

    private static void promise4Fault() {
        String[] good = {"plain", "  plain  ", "poplar 0 5", "pusher 1 99", "old 0 0", "stump 1 07", "gap 0", "gap 01",
            "law 0", "law 1", "law 02", "poplar0 5", "poplar 0 5;gap 1 ; law 2", "plain;plain", "stump00 00;gap1;law2"};
        for (String text : good) {
            faultOf(text, PoplarQueue.NONE);
        }
        faultOf("", 0);
        faultOf("   ", 3);
        faultOf(";", 0);
        faultOf("5", 0);
        faultOf("plain;", 6);
        faultOf("plain; ", 7);
        faultOf("plain;;law 0", 6);
        faultOf("plain 1", 6);
        faultOf("plains", 0);
        faultOf("plai", 0);
        faultOf("Plain", 0);
        faultOf("plainLaw", 5);
        faultOf("plain.", 5);
        faultOf("farmer 0 1", 0);
        faultOf("poplar", 6);
        faultOf("poplar ", 7);
        faultOf("poplar 0", 8);
        faultOf("poplar;", 6);
        faultOf("poplar x 5", 7);
        faultOf("poplar 2 5", 7);
        faultOf("poplar 000 5", 7);
        faultOf("poplar 05", 7);
        faultOf("poplar 0 100", 9);
        faultOf("poplar 0 005", 9);
        faultOf("poplar 0 5 6", 11);
        faultOf("poplar 0 5x", 10);
        faultOf("poplar 0,5", 8);
        faultOf("poplar 0 -5", 9);
        faultOf("poplar\t0 5", 6);
        faultOf("poplar 0 5 law 1", 11);
        faultOf("gap", 3);
        faultOf("gap 2", 4);
        faultOf("gap 1 1", 6);
        faultOf("law", 3);
        faultOf("law 3", 4);
        faultOf("law 1 1", 6);
        faultOf("law 1;law 9;gap 7", 10);
        faultOf("law 1" + (char) 255, 5);
        faultOf("law 1" + (char) 0, 5);
    }

    private static void promise4FaultsByWhatWasTold() {
        String twelve = "old 0 1;".repeat(6) + "old 1 1;".repeat(6);
        faultOf(twelve + "old 0 1", 96);
        faultOf(twelve + "stump 7 1", 96);
        faultOf(twelve + "gap 0", PoplarQueue.NONE);
        faultOf(twelve + "plain;old 0 1", PoplarQueue.NONE);
        faultOf("gap 0;".repeat(12) + "gap 0", 76);
        faultOf("gap 0;".repeat(12) + "old 0 x", 76);
        faultOf("gap 1;".repeat(12) + "old 0 1", PoplarQueue.NONE);

        PoplarQueue q = Due.told(twelve + "law 1");
        Due.write(q, "poplar 0 1");
        d.due("fault of a thirteenth in the next text", q.fault(), 0);
        d.due("plain of a thirteenth in the next text", q.plain(), PoplarQueue.NOT);
        d.due("count(11): the text stays", q.count(11), 10);
        q.erase();
        Due.write(q, "gap 0;gap 0;gap 0;gap 0;gap 0;gap 0;gap 0");
        d.due("fault of a thirteenth place in the next text", q.fault(), 40);

        PoplarQueue joined = Due.told("law 0");
        for (int i = 0; i < 12; i++) {
            joined.join(0, 0, 1);
        }
        Due.write(joined, "poplar 0 1");
        d.due("fault: trees that joined were not told", joined.fault(), PoplarQueue.NONE);
    }

    private static void promise4Clauses() {
        faultOf("law 0;".repeat(19) + "law 0", PoplarQueue.NONE);
        faultOf("law 0;".repeat(20) + "law 0", 119);
        faultOf("law 0;".repeat(20), 119);
        PoplarQueue q = new PoplarQueue();
        d.due("plain of 20 clauses", Due.tell(q, "law 0;".repeat(19) + "law 2"), 20);
        d.due("count(3) behind 20 clauses", q.count(3), 2);
    }

    private static void promise5Plain() {
        PoplarQueue q = new PoplarQueue();
        d.due("plain of no text", q.plain(), PoplarQueue.NOT);
        Due.write(q, "poplar 0 5;law 9");
        d.due("plain with a fault", q.plain(), PoplarQueue.NOT);
        d.due("count(0): nothing is done of it", q.count(0), 0);
        d.due("erase: the text stays", q.erase(), 16);
        d.due("plain of six", Due.tell(q, "poplar 0 5;pusher 1 6;old 0 7;stump 1 8;gap 0;law 2"), 6);
        d.due("count(11) behind plain", q.count(11), 0);
        d.due("count(3) behind plain", q.count(3), 2);
        d.stand("plain", q, "0 2 90 | 1 3");
        for (int tree = 0; tree < 4; tree++) {
            d.due("kind of " + tree, q.tree(tree, 0), tree);
            d.due("root of " + tree, q.tree(tree, 1), 5 + tree);
        }
        d.due("plain clause in its order", Due.tell(q, "gap 0;plain;old 1 3"), 3);
        d.stand("plain clause", q, "| 0");
        d.due("law behind the plain clause", q.count(3), 0);
    }

    private static void promise5WhatEarlierTextsTold() {
        PoplarQueue q = Due.told("poplar 0 5;old 1 6;pusher 0 9;law 1");
        q.law(2);
        q.fell(0);
        q.home(1);
        q.join(1, 3, 3);
        q.night();
        d.due("plain of one gap more", Due.tell(q, "gap 1"), 1);
        d.stand("plain", q, "0 2 | 1 90");
        d.due("trees: the one that joined is gone", q.count(0), 3);
        d.due("the law as it was told", q.count(3), 1);
        d.due("the kind as it was told", q.tree(0, 0), 0);
        d.due("bids", q.tree(0, 5), 0);
        d.due("at home", q.count(7), 0);
        d.due("called", q.count(6), 0);
        d.due("the next tree's number", q.join(0, 0, 0), 3);
    }

    private static void promise5AllElseIsGone() {
        PoplarQueue q = Due.told("poplar 0 5;poplar 1 6");
        q.bag(0, 3);
        q.bag(2, 0);
        q.seen(3, 1);
        q.keep(0);
        q.keep(1);
        q.night();
        d.due("turn ahead of plain", q.count(5), 1);
        Due.tell(q, "gap 0");
        d.due("night", q.count(4), 0);
        d.due("turn", q.count(5), 0);
        d.due("seen", q.count(8), 0);
        d.due("bags", q.count(9), 0);
        d.due("to undo", q.count(10), 0);
        d.due("undo", q.undo(), PoplarQueue.NOT);
        d.due("again(0)", q.again(0), PoplarQueue.NOT);
        d.due("again(1)", q.again(1), PoplarQueue.NOT);
        d.due("held of a bag that was", q.held(0, 0, 0), PoplarQueue.NULL);
    }

    private static void promise6Tree() {
        PoplarQueue q = Due.told("stump 1 8;old 1 42;poplar 0 3");
        int[][] want = {{3, 8, 1, 0, 0, 0}, {2, 42, 1, 1, 0, 0}, {0, 3, 0, 0, 0, 0}};
        for (int tree = 0; tree < 3; tree++) {
            for (int what = 0; what < 6; what++) {
                d.due("tree(" + tree + ", " + what + ")", q.tree(tree, what), want[tree][what]);
            }
        }
        q.night();
        d.due("state of a called one", q.tree(2, 4), 1);
        d.due("line of a called one", q.tree(2, 2), PoplarQueue.NONE);
        d.due("place of a called one", q.tree(2, 3), PoplarQueue.NONE);
        d.due("bids of a called one", q.tree(2, 5), 1);
        q.night();
        d.due("bids of the old one", q.tree(1, 5), 1);
        d.due("state of the old one", q.tree(1, 4), 0);
        q.home(1);
        d.due("state of one at home", q.tree(1, 4), 2);
        d.due("line of one at home", q.tree(1, 2), PoplarQueue.NONE);
        d.due("place of one at home", q.tree(1, 3), PoplarQueue.NONE);
        d.due("bids of one at home", q.tree(1, 5), 1);
        d.due("kind of one at home", q.tree(1, 0), 2);
        d.due("tree(3, 9)", q.tree(3, 9), PoplarQueue.UNKNOWN);
        d.due("tree(-1, 0)", q.tree(-1, 0), PoplarQueue.UNKNOWN);
        d.due("tree(0, 6)", q.tree(0, 6), PoplarQueue.OUTSIDE);
        d.due("tree(0, -1)", q.tree(0, -1), PoplarQueue.OUTSIDE);
    }

    private static void promise7At() {
        PoplarQueue q = Due.told("poplar 0 5;gap 0;old 0 3;gap 1");
        q.home(1);
        d.due("at(0, 0)", q.at(0, 0), 0);
        d.due("at(0, 1)", q.at(0, 1), 90);
        d.due("at(0, 2)", q.at(0, 2), 51);
        d.due("at(1, 0)", q.at(1, 0), 90);
        d.due("at(0, 3)", q.at(0, 3), PoplarQueue.UNKNOWN);
        d.due("at(1, 1)", q.at(1, 1), PoplarQueue.UNKNOWN);
        d.due("at(0, -1)", q.at(0, -1), PoplarQueue.UNKNOWN);
        d.due("at(2, 0)", q.at(2, 0), PoplarQueue.UNKNOWN);
        d.due("at(-1, 0)", q.at(-1, 0), PoplarQueue.UNKNOWN);
    }

    private static void promise8As() {
        PoplarQueue q = Due.told("poplar 0 5;pusher 0 5;old 0 5;stump 0 5");
        q.join(1, 4, 5);
        int not = PoplarQueue.NOT;
        int[][] want = {{1, 1, not, not, not, not}, {1, 1, 1, not, not, not}, {2, 2, not, 2, not, not},
            {0, not, not, not, 0, not}, {3, not, not, not, 3, 3}};
        for (int tree = 0; tree < 5; tree++) {
            for (int kind = 0; kind < 6; kind++) {
                d.due("as(" + tree + ", " + kind + ")", q.as(tree, kind), want[tree][kind]);
            }
        }
        d.due("as(5, 9)", q.as(5, 9), PoplarQueue.UNKNOWN);
        d.due("as(-1, 0)", q.as(-1, 0), PoplarQueue.UNKNOWN);
        d.due("as(0, 6)", q.as(0, 6), PoplarQueue.OUTSIDE);
        d.due("as(0, -1)", q.as(0, -1), PoplarQueue.OUTSIDE);
        q.fell(2);
        d.due("as(2, 4) when felled", q.as(2, 4), 3);
        d.due("as(2, 1) when felled", q.as(2, 1), not);
    }
}
