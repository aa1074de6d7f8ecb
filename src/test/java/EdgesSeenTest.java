/** The edges of promises 24 to 28, each sentence by itself. */
public final class EdgesSeenTest {
    private static final Due d = new Due("EdgesSeenTest");
    private static final int UNKNOWN = PoplarQueue.UNKNOWN, OUTSIDE = PoplarQueue.OUTSIDE;
    private static final int NOT = PoplarQueue.NOT, FULL = PoplarQueue.FULL;
    private static final int MOST = Integer.MAX_VALUE, LEAST = Integer.MIN_VALUE;

    public static void main(String[] args) {
        Promises.run(EdgesSeenTest.class, d, 24, 28);
    }

    // ---- 24

    static void promise24_nightsBelow1AreOutside() {
        for (int n : new int[] {0, -1, LEAST}) {
            d.refusedBusy("seen(" + n + ", 0)", q -> q.seen(n, 0), OUTSIDE);
        }
    }

    static void promise24_nightsAbove20AreOutside() {
        for (int n : new int[] {21, MOST}) {
            d.refusedBusy("seen(" + n + ", 0)", q -> q.seen(n, 0), OUTSIDE);
        }
    }

    static void promise24_fewerThan0AreOutside() {
        for (int k : new int[] {-1, LEAST}) {
            d.refusedBusy("seen(1, " + k + ")", q -> q.seen(1, k), OUTSIDE);
        }
    }

    static void promise24_moreThan20AreOutside() {
        for (int k : new int[] {21, MOST}) {
            d.refusedBusy("seen(20, " + k + ")", q -> q.seen(20, k), OUTSIDE);
        }
    }

    static void promise24_theLeastAndTheMostAreTaken() {
        PoplarQueue q = new PoplarQueue();
        d.due("seen(1, 0)", q.seen(1, 0), 1);
        d.due("seen(1, 20)", q.seen(1, 20), 2);
        d.due("seen(20, 0)", q.seen(20, 0), 3);
        d.due("seen(20, 20)", q.seen(20, 20), 4);
    }

    private static PoplarQueue having(int seen) {
        PoplarQueue q = Due.told("poplar 0 1;law 1");
        for (int i = 0; i < seen; i++) {
            q.seen(1, 1);
        }
        return q;
    }

    static void promise24_theSixthIsTaken() {
        d.due("seen of a sixth", having(5).seen(20, 1), 6);
        PoplarQueue q = having(5);
        q.seen(20, 0);
        d.due("it counts", q.laws(), 0);
    }

    static void promise24_aSeventhIsFull() {
        d.refused("seen of a seventh", () -> having(6), q -> q.seen(1, 0), FULL);
        PoplarQueue q = having(6);
        q.seen(1, 0);
        d.due("it does not count", q.laws(), 7);
    }

    static void promise24_outsideComesAheadOfFull() {
        d.refused("seen(0, 0)", () -> having(6), q -> q.seen(0, 0), OUTSIDE);
        d.refused("seen(1, 21)", () -> having(6), q -> q.seen(1, 21), OUTSIDE);
    }

    static void promise24_theSameTwiceAreTwo() {
        PoplarQueue q = having(2);
        d.due("count(8)", q.count(8), 2);
    }

    // ---- 25

    static void promise25_forgetOfNothingIs0() {
        d.due("forget", new PoplarQueue().forget(), 0);
    }

    static void promise25_forgetOfAllIs6() {
        PoplarQueue q = having(6);
        d.due("forget", q.forget(), 6);
        d.due("forget again", q.forget(), 0);
        d.due("count(8)", q.count(8), 0);
    }

    static void promise25_thereIsRoomThen() {
        PoplarQueue q = having(6);
        q.forget();
        d.due("seen", q.seen(1, 1), 1);
    }

    static void promise25_nothingOfItCountsThen() {
        PoplarQueue q = having(0);
        q.seen(1, 9);
        q.forget();
        d.due("laws", q.laws(), 7);
        q.seen(2, 1);
        d.due("laws of what is seen then", q.laws(), 7);
    }

    static void promise25_allElseStays() {
        PoplarQueue q = Due.busy();
        q.forget();
        d.same("what can be undone", Look.atPast(q), Look.atPast(Due.busy()));
    }

    // ---- 26

    static void promise26_ofNothingSeenAllAreSo() {
        d.due("laws", Due.told("poplar 0 1;old 1 1").laws(), 7);
    }

    static void promise26_eachLawHasItsBit() {
        // within 2 nights: by turns 1, by longer none, by roots 2
        String text = "poplar 0 9;poplar 0 9;stump 1 1;gap 1;gap 1";
        int[][] want = {{1, 1}, {0, 2}, {2, 4}};
        for (int[] pair : want) {
            PoplarQueue q = Due.told(text + ";law 1");
            q.seen(2, pair[0]);
            d.due("laws of (2, " + pair[0] + ")", q.laws(), pair[1]);
        }
    }

    static void promise26_itIsSoManyNotMoreNotFewer() {
        int[] want = {0, 0, 7, 0};
        for (int k = 0; k < 4; k++) {
            PoplarQueue q = Due.told("poplar 0 1;poplar 0 1;poplar 0 1");
            q.seen(2, k);
            d.due("laws of (2, " + k + ")", q.laws(), want[k]);
        }
    }

    static void promise26_allThatIsSeenMustBeSo() {
        PoplarQueue q = Due.told("poplar 0 1;poplar 0 1");
        q.seen(1, 1);
        q.seen(2, 2);
        d.due("laws", q.laws(), 7);
        q.seen(1, 0);
        d.due("laws, of which one cannot be", q.laws(), 0);
    }

    static void promise26_theFirstNightIsOfThem() {
        PoplarQueue q = Due.told("poplar 0 1;gap 0");
        q.seen(1, 1);
        d.due("laws", q.laws(), 7);
    }

    /** Line 1 has its way in each even night: three farmers, and behind them a poplar in night 20. */
    private static PoplarQueue twentyNights() {
        PoplarQueue q = Due.told("stump 0 1");
        q.join(1, 4, 0);
        q.join(1, 4, 0);
        q.join(1, 4, 0);
        q.join(1, 0, 0);
        return q;
    }

    static void promise26_night20IsOfThem() {
        PoplarQueue q = twentyNights();
        q.seen(20, 4);
        d.due("laws of (20, 4)", q.laws(), 1);
        PoplarQueue less = twentyNights();
        less.seen(19, 4);
        d.due("laws of (19, 4)", less.laws(), 0);
        PoplarQueue three = twentyNights();
        three.seen(19, 3);
        d.due("laws of (19, 3), by turns and by longer", three.laws(), 3);
    }

    static void promise26_night21IsNot() {
        PoplarQueue q = Due.told("stump 1 9;stump 1 9;stump 1 9;stump 1 9;stump 1 9");
        q.join(0, 4, 0);
        q.join(0, 4, 0);
        q.join(0, 4, 0);
        q.join(0, 2, 0);
        d.due("the last is called in night 21", q.when(8), 21);
        q.seen(20, 3);
        d.due("laws of (20, 3)", q.laws(), 1);
    }

    static void promise26_ofNoTreesNobodyIsCalled() {
        PoplarQueue q = new PoplarQueue();
        q.seen(20, 0);
        d.due("laws of (20, 0)", q.laws(), 7);
        q.seen(1, 1);
        d.due("laws of (1, 1)", q.laws(), 0);
    }

    static void promise26_itIsFromNowOn() {
        PoplarQueue q = Due.told("poplar 0 1;gap 0;poplar 0 1;law 1");
        q.seen(1, 1);
        d.due("laws", q.laws(), 7);
        q.night();
        d.due("laws, a night later", q.laws(), 0);
        q.night();
        d.due("laws, two nights later", q.laws(), 7);
    }

    static void promise26_theTurnIsTheOneByNow() {
        PoplarQueue q = Due.told("stump 0 9;stump 0 9;poplar 1 1");
        q.seen(1, 1);
        d.due("laws", q.laws(), 0);
        q.night();
        d.due("laws, a night later", q.laws(), 1);
    }

    static void promise26_nothingChanges() {
        d.refusedBusy("laws", PoplarQueue::laws, 2);
    }

    // ---- 27

    static void promise27_noSuchTreeIsUnknown() {
        for (int tree : new int[] {-1, 7, 12, MOST, LEAST}) {
            d.refusedBusy("kinds(" + tree + ")", q -> q.kinds(tree), UNKNOWN);
        }
    }

    static void promise27_oneInNoLineIsNot() {
        d.refusedBusy("kinds of a called one", q -> q.kinds(0), NOT);
        d.refusedBusy("kinds of one at home", q -> q.kinds(5), NOT);
    }

    static void promise27_ofNothingSeenAllAreSo() {
        PoplarQueue q = Due.told("poplar 0 1;stump 1 1");
        d.due("kinds of a poplar", q.kinds(0), 31);
        d.due("kinds of a stump", q.kinds(1), 31);
    }

    static void promise27_eachKindHasItsBit() {
        // behind the old one, which is called in night 2, or ahead of it, if it pushes, in night 1
        PoplarQueue q = Due.told("old 0 1;poplar 0 9;law 1");
        q.seen(1, 1);
        d.due("kinds of (1, 1)", q.kinds(1), 2);
        q.forget();
        q.seen(2, 1);
        q.seen(3, 2);
        d.due("kinds of (2, 1) and (3, 2)", q.kinds(1), 3);
        q.seen(1, 0);
        d.due("kinds of a poplar", q.kinds(1), 1);
        q.forget();
        q.seen(3, 1);
        q.seen(4, 2);
        d.due("kinds of an old one", q.kinds(1), 4);
        q.forget();
        q.seen(4, 1);
        q.seen(5, 2);
        d.due("kinds of a farmer", q.kinds(1), 16);
        q.forget();
        q.seen(20, 1);
        d.due("kinds of a stump", q.kinds(1), 8);
    }

    static void promise27_itIsBidAsOftenAsItIs() {
        PoplarQueue q = Due.told("old 0 1;law 1");
        q.night();
        q.seen(1, 1);
        d.due("kinds of one bid once", q.kinds(0), 7);
        q.forget();
        q.seen(1, 0);
        q.seen(2, 1);
        d.due("kinds of a farmer bid once", q.kinds(0), 16);
    }

    static void promise27_night20IsOfThem() {
        PoplarQueue q = twentyNights();
        q.seen(20, 4);
        d.due("kinds", q.kinds(4), 3);
    }

    static void promise27_whatCannotBeIs0() {
        PoplarQueue q = Due.told("poplar 0 1");
        q.seen(1, 2);
        d.due("kinds", q.kinds(0), 0);
    }

    static void promise27_nothingChanges() {
        // all but a stump are called within 3 nights, and nobody behind them is
        d.refusedBusy("kinds(2)", q -> q.kinds(2), 23);
        d.due("kind", Due.busy().tree(2, 0), 4);
    }

    // ---- 28

    private static void doorIs(int n, int q, int m, int above, int below) {
        PoplarQueue x = new PoplarQueue();
        String call = "door(" + n + ", " + q + ", " + m + ", ";
        d.due(call + "0)", x.door(n, q, m, 0), above);
        d.due(call + "1)", x.door(n, q, m, 1), below);
    }

    private static void doorIsOutside(int n, int q, int m, int part) {
        d.refusedBusy("door(" + n + ", " + q + ", " + m + ", " + part + ")", x -> x.door(n, q, m, part), OUTSIDE);
    }

    static void promise28_nightsAre0To9() {
        doorIsOutside(-1, 5, 0, 0);
        doorIsOutside(10, 5, 0, 0);
        doorIsOutside(MOST, 5, 0, 0);
        doorIsOutside(LEAST, 5, 0, 0);
        doorIs(0, 5, 0, 1, 1);
        doorIs(9, 5, 9, 1, 512);
    }

    static void promise28_tenthsAre0To10() {
        doorIsOutside(5, -1, 0, 0);
        doorIsOutside(5, 11, 0, 0);
        doorIsOutside(5, MOST, 0, 0);
        doorIsOutside(5, LEAST, 0, 0);
    }

    static void promise28_timesAre0To9() {
        doorIsOutside(5, 5, -1, 0);
        doorIsOutside(5, 5, 10, 0);
        doorIsOutside(5, 5, MOST, 0);
        doorIsOutside(5, 5, LEAST, 0);
    }

    static void promise28_partsAre0And1() {
        doorIsOutside(5, 5, 1, -1);
        doorIsOutside(5, 5, 1, 2);
        doorIsOutside(5, 5, 1, MOST);
        doorIsOutside(5, 5, 1, LEAST);
    }

    static void promise28_in0NightsItDoesNotOpen() {
        for (int q = 0; q <= 10; q++) {
            doorIs(0, q, 0, 1, 1);
            doorIs(0, q, 1, 0, 1);
        }
    }

    static void promise28_0TimesAtLeastIsSure() {
        for (int n = 0; n <= 9; n++) {
            for (int q = 0; q <= 10; q++) {
                doorIs(n, q, 0, 1, 1);
            }
        }
    }

    static void promise28_moreOftenThanThereAreNightsIsNever() {
        for (int n = 0; n <= 8; n++) {
            doorIs(n, 10, n + 1, 0, 1);
            doorIs(n, 7, 9, 0, 1);
        }
    }

    static void promise28_by0OfTenItNeverOpens() {
        doorIs(9, 0, 1, 0, 1);
        doorIs(1, 0, 1, 0, 1);
    }

    static void promise28_by10OfTenItOpensEachNight() {
        for (int n = 1; n <= 9; n++) {
            doorIs(n, 10, n, 1, 1);
        }
    }

    static void promise28_itIsTellingAtLeast() {
        doorIs(2, 5, 1, 3, 4);
        doorIs(2, 5, 2, 1, 4);
        doorIs(3, 1, 2, 7, 250);
    }

    static void promise28_partsAreInLowestTerms() {
        doorIs(1, 2, 1, 1, 5);
        doorIs(1, 4, 1, 2, 5);
        doorIs(1, 8, 1, 4, 5);
        doorIs(2, 6, 2, 9, 25);
        doorIs(3, 5, 2, 1, 2);
    }

    static void promise28_theGreatestPartsAreTold() {
        doorIs(9, 1, 9, 1, 1000000000);
        doorIs(9, 9, 1, 999999999, 1000000000);
        doorIs(9, 9, 9, 387420489, 1000000000);
        doorIs(9, 3, 4, 135170451, 500000000);
    }

    /** By each way in which n nights can go, one by one. */
    static void promise28_allOddsAreAsCounted() {
        for (int n = 0; n <= 9; n++) {
            for (int q = 0; q <= 10; q++) {
                long[] atLeast = new long[11];
                for (int way = 0; way < 1 << n; way++) {
                    int opens = Integer.bitCount(way);
                    long weight = 1;
                    for (int i = 0; i < n; i++) {
                        weight *= i < opens ? q : 10 - q;
                    }
                    for (int m = 0; m <= opens; m++) {
                        atLeast[m] += weight;
                    }
                }
                for (int m = 0; m <= 9; m++) {
                    inLowestTerms(n, q, m, atLeast[m], atLeast[0]);
                }
            }
        }
    }

    private static void inLowestTerms(int n, int q, int m, long above, long below) {
        java.math.BigInteger shared = java.math.BigInteger.valueOf(above).gcd(java.math.BigInteger.valueOf(below));
        doorIs(n, q, m, (int) (above / shared.longValue()), (int) (below / shared.longValue()));
    }

    static void promise28_nothingChanges() {
        d.refusedBusy("door(2, 5, 1, 0)", q -> q.door(2, 5, 1, 0), 3);
    }
}
