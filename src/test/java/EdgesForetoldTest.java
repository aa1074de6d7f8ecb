/** The edges of promises 18 to 23, each sentence by itself. */
public final class EdgesForetoldTest {
    private static final Due d = new Due("EdgesForetoldTest");
    private static final int NONE = PoplarQueue.NONE, UNKNOWN = PoplarQueue.UNKNOWN, OUTSIDE = PoplarQueue.OUTSIDE;
    private static final int NOT = PoplarQueue.NOT, FULL = PoplarQueue.FULL;
    private static final int MOST = Integer.MAX_VALUE, LEAST = Integer.MIN_VALUE;

    public static void main(String[] args) {
        Promises.run(EdgesForetoldTest.class, d, 18, 23);
    }

    /** By turns line 1 has its way in each even night: its ten farmers go by three, the last of them in night 60. */
    private static PoplarQueue sixtyNights() {
        PoplarQueue q = Due.told("stump 0 1");
        for (int i = 0; i < 10; i++) {
            q.join(1, 4, 0);
        }
        return q;
    }

    /** The same in line 0, which has its way in each odd night, and behind the farmers a poplar, in night 61. */
    private static PoplarQueue sixtyOneNights() {
        PoplarQueue q = Due.told("stump 1 1");
        for (int i = 0; i < 10; i++) {
            q.join(0, 4, 0);
        }
        q.join(0, 0, 0);
        return q;
    }

    private static PoplarQueue ofPoplars(int trees) {
        PoplarQueue q = new PoplarQueue();
        for (int i = 0; i < trees; i++) {
            q.join(0, 0, 5);
        }
        return q;
    }

    // ---- 18

    static void promise18_noSuchTreeIsUnknown() {
        for (int tree : new int[] {-1, 7, 12, MOST, LEAST}) {
            d.refusedBusy("when(" + tree + ")", q -> q.when(tree), UNKNOWN);
        }
    }

    static void promise18_oneThatIsCalledIsNot() {
        d.refusedBusy("when(0)", q -> q.when(0), NOT);
    }

    static void promise18_oneAtHomeIsNot() {
        d.refusedBusy("when(5)", q -> q.when(5), NOT);
    }

    static void promise18_theFirstNightIs1() {
        d.due("when", ofPoplars(1).when(0), 1);
    }

    static void promise18_night60Is60() {
        d.due("when", sixtyNights().when(10), 60);
    }

    static void promise18_night61IsNone() {
        PoplarQueue q = sixtyOneNights();
        d.due("when", q.when(11), NONE);
        q.night();
        d.due("when, a night later", q.when(11), 60);
    }

    static void promise18_oneThatIsNeverCalledIsNone() {
        PoplarQueue q = Due.told("stump 0 1;gap 0;poplar 0 1;stump 1 1");
        for (int tree = 0; tree < 3; tree++) {
            d.due("when(" + tree + ")", q.when(tree), NONE);
        }
    }

    static void promise18_itIsFromNowOn() {
        PoplarQueue q = Due.told("old 0 1;poplar 1 1");
        d.due("when(0)", q.when(0), 3);
        d.due("when(1)", q.when(1), 2);
        q.night();
        d.due("when(0), a night later", q.when(0), 2);
        d.due("when(1), a night later", q.when(1), 1);
    }

    static void promise18_nothingChanges() {
        d.refusedBusy("when(2)", q -> q.when(2), 3);
        d.refusedBusy("when(3)", q -> q.when(3), NONE);
    }

    // ---- 19

    static void promise19_noSuchTreeIsUnknown() {
        for (int tree : new int[] {-1, 7, 12, MOST, LEAST}) {
            d.refusedBusy("where(" + tree + ", 0)", q -> q.where(tree, 0), UNKNOWN);
        }
    }

    static void promise19_nightsBelow0AreOutside() {
        d.refusedBusy("where(2, -1)", q -> q.where(2, -1), OUTSIDE);
        d.refusedBusy("where(2, least)", q -> q.where(2, LEAST), OUTSIDE);
    }

    static void promise19_nightsAbove60AreOutside() {
        d.refusedBusy("where(2, 61)", q -> q.where(2, 61), OUTSIDE);
        d.refusedBusy("where(2, most)", q -> q.where(2, MOST), OUTSIDE);
    }

    static void promise19_unknownComesAheadOfOutside() {
        d.refusedBusy("where(7, 61)", q -> q.where(7, 61), UNKNOWN);
    }

    static void promise19_behind0NightsItIsWhereItIs() {
        PoplarQueue q = Due.busy();
        d.due("where(2, 0)", q.where(2, 0), 0);
        d.due("where(3, 0)", q.where(3, 0), 100);
        d.due("where(6, 0)", q.where(6, 0), 2);
    }

    static void promise19_behind60NightsCanBeAsked() {
        d.due("where of a stump", Due.told("gap 1;stump 1 1").where(0, 60), 100);
        d.due("where behind 59", sixtyNights().where(10, 59), 100);
        d.due("where behind 60", sixtyNights().where(10, 60), NONE);
        d.due("where behind 60 of 61", sixtyOneNights().where(11, 60), 0);
    }

    static void promise19_oneInNoLineByThenIsNone() {
        PoplarQueue q = ofPoplars(2);
        d.due("where behind its last night", q.where(1, 1), 0);
        d.due("where behind its call", q.where(1, 2), NONE);
        d.due("where long behind it", q.where(1, 60), NONE);
    }

    static void promise19_thoseCalledAndAtHomeAreNone() {
        d.refusedBusy("where of a called one", q -> q.where(0, 0), NONE);
        d.refusedBusy("where of one at home", q -> q.where(5, 0), NONE);
        d.refusedBusy("where of one at home, later", q -> q.where(5, 60), NONE);
    }

    static void promise19_theTwelfthPlaceOfLine1Is111() {
        d.due("where", Due.told("gap 1;".repeat(11) + "old 1 1").where(0, 0), 111);
        d.due("where in line 0", Due.told("gap 0;".repeat(11) + "old 0 1").where(0, 0), 11);
    }

    static void promise19_itIsWhereItWasPushed() {
        PoplarQueue q = Due.told("stump 0 1;old 0 1;old 0 1;pusher 0 2;gap 1");
        d.due("where of one that pushes", q.where(3, 1), 2);
        d.due("where of one that is pushed", q.where(2, 1), 3);
    }

    static void promise19_nothingChanges() {
        d.refusedBusy("where(6, 9)", q -> q.where(6, 9), 0);
    }

    // ---- 20

    static void promise20_anotherKIsOutside() {
        for (int k : new int[] {-1, 12, MOST, LEAST}) {
            d.refusedBusy("next(" + k + ")", q -> q.next(k), OUTSIDE);
        }
    }

    static void promise20_theFirstIs0() {
        d.due("next(0)", ofPoplars(2).next(0), 0);
    }

    static void promise20_theTwelfthIs11() {
        d.due("next(11) of twelve", ofPoplars(12).next(11), 11);
        d.due("next(11) of eleven", ofPoplars(11).next(11), NONE);
        d.due("next(10) of eleven", ofPoplars(11).next(10), 10);
    }

    static void promise20_ofNobodyItIsNone() {
        d.due("next of a new plain", new PoplarQueue().next(0), NONE);
        d.due("next of stumps", Due.told("stump 0 1;stump 1 1").next(0), NONE);
        d.due("next of gaps", Due.told("gap 0;gap 1").next(0), NONE);
    }

    static void promise20_night60Counts() {
        d.due("next(9)", sixtyNights().next(9), 10);
    }

    static void promise20_night61DoesNot() {
        PoplarQueue q = sixtyOneNights();
        d.due("next(9)", q.next(9), 10);
        d.due("next(10)", q.next(10), NONE);
        q.night();
        d.due("next(10), a night later", q.next(10), 11);
    }

    static void promise20_thoseCalledAheadOfNowDoNotCount() {
        PoplarQueue q = ofPoplars(3);
        q.night();
        d.due("next(0)", q.next(0), 1);
        d.due("next(1)", q.next(1), 2);
        d.due("next(2)", q.next(2), NONE);
    }

    static void promise20_nightsInWhichNobodyIsCalledDoNotCount() {
        PoplarQueue q = Due.told("gap 0;poplar 0 1;stump 1 1");
        d.due("next(0)", q.next(0), 0);
        d.due("next(1)", q.next(1), NONE);
    }

    static void promise20_nothingChanges() {
        d.refusedBusy("next(0)", q -> q.next(0), 2);
    }

    // ---- 21

    static void promise21_anotherKindIsOutside() {
        for (int kind : new int[] {-1, 5, MOST, LEAST}) {
            d.refusedBusy("best(" + kind + ", 5)", q -> q.best(kind, 5), OUTSIDE);
        }
    }

    static void promise21_anotherRootIsOutside() {
        for (int root : new int[] {-1, 100, MOST, LEAST}) {
            d.refusedBusy("best(0, " + root + ")", q -> q.best(0, root), OUTSIDE);
        }
    }

    static void promise21_kinds0To4AndRoots0To99CanBeAsked() {
        for (int kind = 0; kind <= 4; kind++) {
            int want = kind == 3 ? NONE : 0;
            d.due("best(" + kind + ", 0)", new PoplarQueue().best(kind, 0), want);
            d.due("best(" + kind + ", 99)", new PoplarQueue().best(kind, 99), want);
        }
    }

    static void promise21_twelveTreesAreFull() {
        d.refused("best of 12 trees", () -> ofPoplars(12), q -> q.best(0, 5), FULL);
        d.due("best of 11 trees", ofPoplars(11).best(0, 5), 1);
    }

    static void promise21_twelveThatAreCalledAreFullToo() {
        PoplarQueue q = ofPoplars(12);
        for (int i = 0; i < 12; i++) {
            q.night();
        }
        d.due("best", q.best(0, 5), FULL);
    }

    static void promise21_outsideComesAheadOfFull() {
        d.refused("best(5, 5)", () -> ofPoplars(12), q -> q.best(5, 5), OUTSIDE);
        d.refused("best(0, 100)", () -> ofPoplars(12), q -> q.best(0, 100), OUTSIDE);
    }

    static void promise21_ofAsSoonItIsLine0() {
        d.due("best of sooner in line 1", Due.told("poplar 0 1;poplar 0 1;poplar 0 1;poplar 1 1").best(0, 0), 1);
        d.due("best of night 4 in both", Due.told("poplar 0 1;poplar 0 1;poplar 1 1").best(0, 0), 0);
        d.due("best of a new plain", new PoplarQueue().best(0, 0), 0);
    }

    static void promise21_aLineOf12PlacesCannotBeJoined() {
        d.due("best beside a full line 0", Due.told("gap 0;".repeat(12) + "old 1 1;old 1 1;law 1").best(0, 0), 1);
        d.due("best beside a full line 1", Due.told("gap 1;".repeat(12) + "old 0 1;old 0 1;law 1").best(0, 0), 0);
        d.due("best beside a line of 11", Due.told("gap 0;".repeat(11) + "stump 1 1;gap 1;law 0").best(0, 0), 0);
    }

    static void promise21_twoLinesOf12PlacesAreNone() {
        PoplarQueue q = Due.told("gap 0;".repeat(11) + "gap 0");
        Due.tell(q, "gap 1;".repeat(11) + "gap 1");
        d.due("best", q.best(0, 0), NONE);
    }

    static void promise21_oneThatIsCalledInNeitherIsNone() {
        d.due("best where both are blocked", Due.told("stump 0 1;gap 0;stump 1 9;gap 1").best(0, 0), NONE);
        d.due("best of a stump", new PoplarQueue().best(3, 5), NONE);
    }

    static void promise21_oneThatIsCalledInOneIsThere() {
        d.due("best where line 0 is blocked", Due.told("stump 0 1;gap 0;poplar 1 1").best(0, 0), 1);
        d.due("best where line 1 is blocked", Due.told("stump 1 1;gap 1;poplar 0 1").best(0, 0), 0);
    }

    /** Line 1 is blocked; in line 0 ten farmers are ahead of the new one, which is called in night 61. */
    private static PoplarQueue tenAhead() {
        PoplarQueue q = Due.told("stump 1 1;gap 1");
        for (int i = 0; i < 10; i++) {
            q.join(0, 4, 0);
        }
        return q;
    }

    static void promise21_night61IsNone() {
        d.due("best", tenAhead().best(0, 0), NONE);
    }

    static void promise21_night60IsInTime() {
        PoplarQueue q = tenAhead();
        q.night();
        d.due("best", q.best(0, 0), 0);
        d.due("best of one that needs a bid more", q.best(2, 0), NONE);
    }

    static void promise21_itIsByTheKindAndTheRoot() {
        PoplarQueue q = Due.told("old 0 5;old 0 5;poplar 1 9");
        d.due("best of a poplar", q.best(0, 9), 1);
        d.due("best of a pusher of more root", q.best(1, 6), 0);
        d.due("best of a pusher of as much", q.best(1, 5), 1);
    }

    static void promise21_nothingChanges() {
        d.refusedBusy("best(1, 99)", q -> q.best(1, 99), 0);
        d.refusedBusy("best(0, 5)", q -> q.best(0, 5), NONE);
    }

    // ---- 22

    static void promise22_noSuchTreeIsUnknown() {
        for (int tree : new int[] {-1, 7, 12, MOST, LEAST}) {
            d.refusedBusy("send(" + tree + ", 5)", q -> q.send(tree, 5), UNKNOWN);
        }
    }

    static void promise22_nightsBelow1AreOutside() {
        for (int n : new int[] {0, -1, LEAST}) {
            d.refusedBusy("send(2, " + n + ")", q -> q.send(2, n), OUTSIDE);
        }
    }

    static void promise22_nightsAbove60AreOutside() {
        for (int n : new int[] {61, MOST}) {
            d.refusedBusy("send(2, " + n + ")", q -> q.send(2, n), OUTSIDE);
        }
    }

    static void promise22_oneInNoLineIsNot() {
        d.refusedBusy("send of a called one", q -> q.send(0, 5), NOT);
        d.refusedBusy("send of one at home", q -> q.send(5, 5), NOT);
    }

    static void promise22_unknownComesAheadOfOutsideAndThatOfNot() {
        d.refusedBusy("send(7, 61)", q -> q.send(7, 61), UNKNOWN);
        d.refusedBusy("send(0, 61)", q -> q.send(0, 61), OUTSIDE);
        d.refusedBusy("send(0, 0)", q -> q.send(0, 0), OUTSIDE);
    }

    static void promise22_withinOneNightCanBeAsked() {
        d.due("send of the first", ofPoplars(2).send(0, 1), 0);
        d.due("send of the second", ofPoplars(2).send(1, 1), NONE);
    }

    static void promise22_within60NightsCanBeAsked() {
        d.due("send within 60", sixtyNights().send(10, 60), 0);
        d.due("send within 60 of 61", sixtyOneNights().send(11, 60), 1);
    }

    static void promise22_nobodyNeedsToGoIfItIsInTime() {
        d.due("send(1, 2)", ofPoplars(2).send(1, 2), 0);
    }

    /** Each old one costs its two nights, or one as a gap. */
    private static PoplarQueue threeOldOnesAhead() {
        return Due.told("old 0 1;old 0 1;old 0 1;poplar 0 2");
    }

    static void promise22_theFewestGo() {
        d.due("none", threeOldOnesAhead().send(3, 7), 0);
        d.due("one", threeOldOnesAhead().send(3, 6), 1);
        d.due("two", threeOldOnesAhead().send(3, 5), 3);
    }

    static void promise22_noMoreThanTwoGo() {
        d.due("three would do", threeOldOnesAhead().send(3, 4), NONE);
    }

    static void promise22_ofAsFewTheLeastGo() {
        d.due("one of three", Due.told("poplar 0 1;old 0 1;old 0 1;poplar 0 2").send(3, 5), 2);
        d.due("two of three", Due.told("poplar 0 1;old 0 1;old 0 1;old 0 1;poplar 0 2").send(4, 6), 6);
    }

    /** Trees 1 and 2 (6), or 0 and 4 (17), would do: the set that is less as a number. */
    static void promise22_theLeastIsByTheBitsAsANumber() {
        PoplarQueue q = Due.told("old 0 8;old 1 3;old 1 9;poplar 1 7;stump 0 7;law 0");
        d.due("send", q.send(3, 7), 6);
        q.home(0);
        q.home(4);
        d.due("the other two would do", q.when(3), 7);
    }

    static void promise22_theOneToldDoesNotGo() {
        d.due("send of a stump", Due.told("stump 0 1").send(0, 60), NONE);
        d.due("send of an old one", Due.told("old 0 1").send(0, 1), NONE);
    }

    static void promise22_onlyThoseInLinesGo() {
        PoplarQueue q = Due.told("old 0 1;old 0 1;poplar 0 2");
        d.due("send, all standing", q.send(2, 4), 1);
        q.home(0);
        d.due("send, one being at home", q.send(2, 3), 2);
        PoplarQueue called = Due.told("poplar 0 1;old 0 1;poplar 0 2");
        called.night();
        d.due("send, one being called", called.send(2, 2), 2);
    }

    static void promise22_thoseOfTheOtherLineCanGo() {
        d.due("by roots", Due.told("stump 0 9;poplar 1 5;law 2").send(1, 1), 1);
        d.due("by longer", Due.told("poplar 1 9;stump 0 1;stump 0 1;law 1").send(0, 3), 6);
    }

    static void promise22_nothingChanges() {
        d.refusedBusy("send(2, 3)", q -> q.send(2, 3), 0);
        d.refusedBusy("send(6, 6)", q -> q.send(6, 6), 8);
        d.refusedBusy("send(6, 4)", q -> q.send(6, 4), 12);
        d.refusedBusy("send(6, 3)", q -> q.send(6, 3), NONE);
    }

    // ---- 23

    static void promise23_anotherLawIsOutside() {
        for (int law : new int[] {-1, 3, MOST, LEAST}) {
            d.refusedBusy("waits(" + law + ")", q -> q.waits(law), OUTSIDE);
        }
    }

    static void promise23_ofNobodyItIs0() {
        for (int law = 0; law <= 2; law++) {
            d.due("waits of a new plain", new PoplarQueue().waits(law), 0);
            d.due("waits of gaps", Due.told("gap 0;gap 1").waits(law), 0);
        }
    }

    static void promise23_oneThatIsNotCalledIs60() {
        d.due("waits of a stump", Due.told("stump 0 1").waits(0), 60);
        PoplarQueue q = new PoplarQueue();
        for (int i = 0; i < 12; i++) {
            q.join(1, 3, 5);
        }
        d.due("waits of 12 stumps", q.waits(1), 720);
    }

    static void promise23_night60AndNight61Are60() {
        // 6, 12 .. 60, and the stump
        d.due("waits of ten farmers", sixtyNights().waits(0), 330 + 60);
        // 5, 11 .. 59, the poplar in night 61, and the stump
        d.due("waits of ten farmers and a poplar", sixtyOneNights().waits(0), 320 + 60 + 60);
    }

    static void promise23_thoseCalledAndAtHomeDoNotCount() {
        PoplarQueue q = ofPoplars(3);
        d.due("waits of three", q.waits(0), 1 + 2 + 3);
        q.night();
        d.due("waits, one being called", q.waits(0), 1 + 2);
        q.home(1);
        d.due("waits, one being at home", q.waits(0), 2);
    }

    static void promise23_itIsByTheLawThatIsAsked() {
        PoplarQueue q = Due.told("poplar 0 1;stump 1 9;stump 1 9;law 0");
        d.due("by turns", q.waits(0), 1 + 60 + 60);
        d.due("by longer", q.waits(1), 60 + 60 + 60);
        d.due("by roots", q.waits(2), 60 + 60 + 60);
    }

    static void promise23_theLawStaysAsItIs() {
        PoplarQueue q = Due.told("poplar 0 1;law 1");
        q.waits(2);
        d.due("the law", q.count(3), 1);
        d.refusedBusy("waits(0)", x -> x.waits(0), 5 + 9 + 60);
    }

    static void promise23_theTurnIsTheOneByNow() {
        PoplarQueue q = Due.told("poplar 0 1;poplar 0 1;poplar 1 1;stump 1 1");
        d.due("waits", q.waits(0), 1 + 2 + 3 + 60);
        q.night();
        d.due("waits, a night later", q.waits(0), 1 + 2 + 60);
    }
}
