/** The edges of promises 9 to 17, each sentence by itself. */
public final class EdgesDoneTest {
    private static final Due d = new Due("EdgesDoneTest");
    private static final int UNKNOWN = PoplarQueue.UNKNOWN, OUTSIDE = PoplarQueue.OUTSIDE;
    private static final int NOT = PoplarQueue.NOT, FULL = PoplarQueue.FULL;
    private static final int MOST = Integer.MAX_VALUE, LEAST = Integer.MIN_VALUE;
    private static final int NOBODY = 99;

    public static void main(String[] args) {
        Promises.run(EdgesDoneTest.class, d, 9, 17);
    }

    /** One night of a text: who is called, and how they stand then. */
    private static PoplarQueue nightOf(String text, int want, String stand) {
        PoplarQueue q = Due.told(text);
        d.due("night of " + text, q.night(), want);
        d.stand("night of " + text, q, stand);
        return q;
    }

    private static void nights(PoplarQueue q, int... want) {
        for (int i = 0; i < want.length; i++) {
            d.due("night " + (i + 1), q.night(), want[i]);
        }
    }

    // ---- 9: refused

    static void promise09_noPlacesInEitherLineIsNot() {
        d.refused("night of a new plain", PoplarQueue::new, PoplarQueue::night, NOT);
        d.refused("night behind the last one", () -> nightOf("poplar 1 5", 0, "|"), PoplarQueue::night, NOT);
        d.refused("night behind the last gap", () -> nightOf("gap 0", NOBODY, "|"), PoplarQueue::night, NOT);
    }

    static void promise09_placesInOneLineAreEnough() {
        nightOf("poplar 0 5", 0, "|");
        nightOf("poplar 1 5", 0, "|");
        nightOf("gap 1", NOBODY, "|");
        nightOf("stump 0 5", NOBODY, "0 |");
    }

    /** Beyond the 512 calls of the document, but built all the same. */
    private static PoplarQueue inNight(int night) {
        PoplarQueue q = Due.told("stump 0 1");
        for (int i = 0; i < night; i++) {
            q.night();
        }
        return q;
    }

    static void promise09_night999IsFull() {
        d.due("night of night 998", inNight(998).night(), NOBODY);
        d.refused("night of night 999", () -> inNight(999), PoplarQueue::night, FULL);
    }

    static void promise09_notComesAheadOfFull() {
        PoplarQueue q = inNight(998);
        q.home(0);
        d.due("the gap goes", q.night(), NOBODY);
        d.due("it is night 999", q.count(4), 999);
        d.due("night of no places", q.night(), NOT);
    }

    // ---- 9: those that push

    static void promise09_oneOfMoreRootPushes() {
        nightOf("poplar 0 5;pusher 0 6", 1, "0 |");
        nightOf("poplar 0 0;pusher 0 99", 1, "0 |");
    }

    static void promise09_oneOfAsMuchRootDoesNotPush() {
        nightOf("poplar 0 5;pusher 0 5", 0, "1 |");
    }

    static void promise09_oneOfLessRootDoesNotPush() {
        nightOf("poplar 0 5;pusher 0 4", 0, "1 |");
    }

    static void promise09_onlyPushersPush() {
        nightOf("poplar 0 0;poplar 0 9", 0, "1 |");
        nightOf("poplar 0 0;old 0 9", 0, "1 |");
        nightOf("poplar 0 0;stump 0 9", 0, "1 |");
        PoplarQueue q = Due.told("poplar 0 0");
        q.join(0, 4, 99);
        nights(q, 0);
    }

    static void promise09_poplarsPushersAndOldOnesArePushed() {
        nightOf("poplar 0 1;pusher 0 9", 1, "0 |");
        nightOf("pusher 0 1;pusher 0 9", 1, "0 |");
        nightOf("old 0 1;pusher 0 9", 1, "0 |");
    }

    static void promise09_aStumpIsNotPushed() {
        nightOf("poplar 1 1;stump 0 0;pusher 0 9;law 1", 2, "1 | 0");
        nightOf("stump 0 0;pusher 0 9;gap 1;gap 1;gap 1;law 1", NOBODY, "0 1 | 90 90");
    }

    static void promise09_aFarmerIsNotPushed() {
        PoplarQueue q = Due.told("poplar 0 0;pusher 0 9");
        q.fell(0);
        nights(q, NOBODY, NOBODY, 0, 1);
    }

    static void promise09_aGapIsNotPushed() {
        nightOf("stump 0 0;gap 0;pusher 0 9", NOBODY, "0 90 1 |");
        PoplarQueue q = Due.told("stump 0 0;poplar 0 1;pusher 0 9");
        q.home(1);
        nights(q, NOBODY);
        d.stand("a night", q, "0 51 2 |");
    }

    static void promise09_thoseThatPushDoSoFromPlace1On() {
        nightOf("pusher 0 9", 0, "|");
        nightOf("pusher 0 9;poplar 0 1", 0, "1 |");
        nightOf("gap 1;gap 1;gap 1;law 1;poplar 0 1;pusher 0 9", NOBODY, "1 0 | 90 90");
    }

    static void promise09_theLastPlacePushesToo() {
        nightOf("stump 0 0;" + "old 0 1;".repeat(10) + "pusher 0 2;law 0", NOBODY, "0 1 2 3 4 5 6 7 8 9 11 10 |");
    }

    static void promise09_oneThatPushedIsNotLookedAtAgain() {
        nightOf("gap 0;old 0 1;old 0 1;old 0 1;pusher 0 9", NOBODY, "0 1 3 2 |");
    }

    static void promise09_oneThatWasPushedBackIsPushedByTheNextPlaceToo() {
        nightOf("gap 0;old 0 1;pusher 0 2;pusher 0 3", NOBODY, "1 2 0 |");
        nightOf("gap 0;pusher 0 1;pusher 0 2;pusher 0 3;pusher 0 4", NOBODY, "1 2 3 0 |");
    }

    static void promise09_oneThatWasPushedBackIsNotLookedAtAgain() {
        nightOf("gap 0;pusher 0 2;pusher 0 3;old 0 1", NOBODY, "1 0 2 |");
        nightOf("gap 0;old 0 1;pusher 0 2;pusher 0 3;old 0 0", NOBODY, "1 2 0 3 |");
    }

    static void promise09_thoseInTheLineThatDoesNotMovePushToo() {
        nightOf("poplar 0 1;old 1 1;pusher 1 2", 0, "| 2 1");
        nightOf("old 0 1;pusher 0 2;poplar 1 1;gap 1;gap 1;law 1", 2, "1 0 | 90 90");
    }

    static void promise09_theyPushAheadOfTheCall() {
        nightOf("poplar 0 1;pusher 0 2", 1, "0 |");
    }

    static void promise09_theyPushAheadOfTheLaw() {
        nightOf("old 0 1;pusher 0 9;poplar 1 5;law 2", 1, "0 | 2");
        nightOf("poplar 0 5;old 1 1;pusher 1 9;law 2", 2, "0 | 1");
    }

    // ---- 9: the laws

    static void promise09_byTurnsTheLineThatHasTheTurnHasItsWay() {
        nights(Due.told("poplar 0 1;poplar 0 1;poplar 0 1;poplar 1 1;poplar 1 1"), 0, 3, 1, 4, 2);
    }

    static void promise09_byTurnsTheOtherOneHasIfThisHasNoPlaces() {
        PoplarQueue q = nightOf("poplar 1 1;poplar 1 1", 0, "| 1");
        d.due("the line that had not its way has the turn", q.count(5), 0);
        nights(q, 1);
        PoplarQueue zero = Due.told("poplar 0 1;poplar 0 1;poplar 0 1");
        nights(zero, 0, 1);
        d.due("line 1 has the turn, having no places", zero.count(5), 1);
    }

    static void promise09_aLineOfOneGapHasItsTurn() {
        PoplarQueue q = nightOf("gap 0;poplar 1 1", NOBODY, "| 0");
        d.due("the turn", q.count(5), 1);
    }

    static void promise09_theTurnGoesOnIfNobodyIsCalled() {
        d.due("behind a gap", nightOf("gap 0;gap 1", NOBODY, "| 90").count(5), 1);
        d.due("behind a stump", nightOf("stump 0 1;gap 1", NOBODY, "0 | 90").count(5), 1);
        d.due("behind a bid", nightOf("old 0 1;gap 1", NOBODY, "0 | 90").count(5), 1);
        d.due("behind a stump and a gap", nightOf("stump 0 1;gap 0;poplar 0 1;gap 1", NOBODY, "0 90 1 | 90").count(5), 1);
    }

    static void promise09_longerIsByPlaces() {
        nightOf("poplar 0 1;poplar 1 1;poplar 1 1;law 1", 1, "0 | 2");
        nightOf("poplar 0 1;poplar 1 1;gap 1;law 1", 1, "0 | 90");
        nightOf("poplar 1 1;law 1", 0, "|");
    }

    static void promise09_longerOfAsManyIsLine0() {
        nightOf("poplar 1 1;poplar 0 1;law 1", 1, "| 0");
        nightOf("poplar 1 1;gap 0;law 1", NOBODY, "| 0");
    }

    static void promise09_rootsIsByTheFirstTree() {
        nightOf("poplar 0 4;poplar 1 5;law 2", 1, "0 |");
        nightOf("poplar 0 5;poplar 1 4;law 2", 0, "| 1");
        nightOf("poplar 0 4;poplar 0 99;poplar 1 5;law 2", 2, "0 1 |");
    }

    static void promise09_rootsOfAsMuchIsLine0() {
        nightOf("poplar 1 4;poplar 0 4;law 2", 1, "| 0");
        nightOf("poplar 1 0;poplar 0 0;law 2", 1, "| 0");
    }

    static void promise09_rootsOfAStumpCount() {
        nightOf("stump 0 7;poplar 0 1;poplar 1 6;law 2", 1, "0 | 2");
        nightOf("stump 0 5;poplar 0 99;poplar 1 6;law 2", 2, "0 1 |");
    }

    static void promise09_rootsOfAGapAreBelow0() {
        nightOf("gap 0;poplar 0 99;poplar 1 0;law 2", 1, "90 0 |");
        nightOf("poplar 0 0;gap 1;poplar 1 99;law 2", 0, "| 90 1");
    }

    static void promise09_rootsOfNoPlacesAreBelow0() {
        nightOf("poplar 1 0;law 2", 0, "|");
    }

    static void promise09_rootsOfTwoGapsAreLine0() {
        nightOf("gap 0;gap 1;law 2", NOBODY, "| 90");
    }

    /** By the words: both count as -1, of as much it is line 0, and that has nothing to move. */
    static void promise09_rootsOfNoPlacesAndAGapAreLine0() {
        PoplarQueue q = nightOf("gap 1;poplar 1 9;law 2", NOBODY, "| 90 0");
        d.due("it is the next night", q.count(4), 1);
        nightOf("gap 0;poplar 0 9;law 2", NOBODY, "0 |");
    }

    static void promise09_theTurnStaysByOtherLaws() {
        d.due("by longer", nightOf("poplar 0 1;law 1", 0, "|").count(5), 0);
        d.due("by roots", nightOf("poplar 0 1;law 2", 0, "|").count(5), 0);
        PoplarQueue q = Due.told("poplar 0 1;poplar 1 1;poplar 1 1");
        q.night();
        q.law(1);
        q.night();
        d.due("line 1 has it still", q.count(5), 1);
    }

    // ---- 9: who is called

    static void promise09_aGapAtTheDoorGoesAndNobodyIsCalled() {
        nightOf("gap 0;poplar 0 1", NOBODY, "0 |");
        nightOf("gap 0;gap 0;poplar 0 1", NOBODY, "90 0 |");
    }

    static void promise09_itsOwnGapGoesAtTheDoorToo() {
        PoplarQueue q = Due.told("poplar 0 1;poplar 0 2");
        q.home(0);
        nights(q, NOBODY, 1);
        d.due("it is at home still", q.tree(0, 4), 2);
    }

    static void promise09_stumpsAreGoneBy() {
        nightOf("stump 0 1;poplar 0 1", 1, "0 |");
        nightOf("stump 0 1;stump 0 1;stump 0 1;poplar 0 1;poplar 0 1", 3, "0 1 2 4 |");
    }

    static void promise09_stumpsAloneAreNotCalled() {
        nightOf("stump 0 1;stump 0 1", NOBODY, "0 1 |");
    }

    static void promise09_aGapBehindStumpsStaysAndNobodyIsCalled() {
        nightOf("stump 0 1;gap 0;poplar 0 1", NOBODY, "0 90 1 |");
        nightOf("stump 0 1;stump 0 1;gap 0;poplar 0 1", NOBODY, "0 1 90 2 |");
    }

    static void promise09_aPoplarNeedsOneBid() {
        d.due("bids", nightOf("poplar 0 1", 0, "|").tree(0, 5), 1);
    }

    static void promise09_anOldOneNeedsTwo() {
        PoplarQueue q = nightOf("old 0 1", NOBODY, "0 |");
        d.due("bids", q.tree(0, 5), 1);
        nights(q, 0);
        d.due("bids", q.tree(0, 5), 2);
    }

    static void promise09_aFarmerNeedsThree() {
        PoplarQueue q = new PoplarQueue();
        q.join(0, 4, 1);
        nights(q, NOBODY, NOBODY, 0);
        d.due("bids", q.tree(0, 5), 3);
    }

    static void promise09_onlyTheOneThatWouldBeCalledIsBid() {
        PoplarQueue q = nightOf("stump 0 1;old 0 1;old 0 1;old 1 1", NOBODY, "0 1 2 | 3");
        int[] bids = {0, 1, 0, 0};
        for (int tree = 0; tree < 4; tree++) {
            d.due("bids of " + tree, q.tree(tree, 5), bids[tree]);
        }
    }

    static void promise09_bidsStayWhileAnotherIsAhead() {
        PoplarQueue q = nightOf("old 0 1", NOBODY, "0 |");
        q.join(0, 1, 9);
        nights(q, 1, 0);
    }

    static void promise09_oneBidMoreOftenThanNeededIsCalled() {
        PoplarQueue q = nightOf("stump 0 1;old 0 5", NOBODY, "0 1 |");
        q.fell(0);
        nights(q, NOBODY, NOBODY, 0, 1);
    }

    static void promise09_allBehindMoveUpAndStumpsAheadStay() {
        PoplarQueue q = nightOf("stump 0 1;poplar 0 1;gap 0;old 0 1", 1, "0 90 2 |");
        d.due("place of the stump", q.tree(0, 3), 0);
        d.due("place of the last", q.tree(2, 3), 2);
        d.due("places", q.count(1), 3);
    }

    static void promise09_itIsTheNextNightEvenIfNobodyIsCalled() {
        d.due("behind a call", nightOf("poplar 0 1", 0, "|").count(4), 1);
        d.due("behind a gap", nightOf("gap 0", NOBODY, "|").count(4), 1);
        d.due("behind a stump", nightOf("stump 0 1", NOBODY, "0 |").count(4), 1);
    }

    // ---- 10

    static void promise10_noSuchLineIsUnknown() {
        for (int line : new int[] {-1, 2, MOST, LEAST}) {
            d.refusedBusy("join(" + line + ", 0, 5)", q -> q.join(line, 0, 5), UNKNOWN);
        }
    }

    static void promise10_anotherKindIsOutside() {
        for (int kind : new int[] {-1, 5, MOST, LEAST}) {
            d.refusedBusy("join(0, " + kind + ", 5)", q -> q.join(0, kind, 5), OUTSIDE);
        }
    }

    static void promise10_anotherRootIsOutside() {
        for (int root : new int[] {-1, 100, MOST, LEAST}) {
            d.refusedBusy("join(0, 0, " + root + ")", q -> q.join(0, 0, root), OUTSIDE);
        }
    }

    static void promise10_theKinds0To4CanJoin() {
        PoplarQueue q = new PoplarQueue();
        for (int kind = 0; kind <= 4; kind++) {
            d.due("join of kind " + kind, q.join(0, kind, 5), kind);
            d.due("its kind", q.tree(kind, 0), kind);
        }
    }

    static void promise10_roots0And99CanJoin() {
        PoplarQueue q = new PoplarQueue();
        q.join(0, 0, 0);
        q.join(1, 0, 99);
        d.due("root 0", q.tree(0, 1), 0);
        d.due("root 99", q.tree(1, 1), 99);
    }

    private static PoplarQueue ofTrees(int trees) {
        PoplarQueue q = new PoplarQueue();
        for (int i = 0; i < trees; i++) {
            q.join(i % 2, 0, i);
        }
        return q;
    }

    static void promise10_theTwelfthTreeCanJoin() {
        d.due("join of a twelfth", ofTrees(11).join(0, 0, 5), 11);
    }

    static void promise10_aThirteenthTreeIsFull() {
        d.refused("join of a thirteenth", () -> ofTrees(12), q -> q.join(0, 0, 5), FULL);
    }

    static void promise10_thoseCalledAndAtHomeAreOfTheTwelve() {
        PoplarQueue q = ofTrees(12);
        for (int i = 0; i < 11; i++) {
            q.night();
        }
        q.home(11);
        q.night();
        d.due("no places are left", q.count(1) + q.count(2), 0);
        d.due("join", q.join(0, 0, 5), FULL);
    }

    static void promise10_theTwelfthPlaceCanBeJoined() {
        PoplarQueue q = Due.told("gap 1;".repeat(10) + "gap 1");
        d.due("join", q.join(1, 2, 5), 0);
        d.due("its place", q.tree(0, 3), 11);
    }

    static void promise10_aThirteenthPlaceIsFull() {
        for (int line = 0; line < 2; line++) {
            String gaps = ("gap " + line + ";").repeat(11) + "gap " + line;
            int full = line;
            d.refused("join of 12 places", () -> Due.told(gaps), q -> q.join(full, 0, 5), FULL);
            d.due("join of the other line", Due.told(gaps).join(1 - line, 0, 5), 0);
        }
    }

    static void promise10_unknownComesAheadOfOutsideAndThatOfFull() {
        d.refused("join(2, 5, 100)", () -> ofTrees(12), q -> q.join(2, 5, 100), UNKNOWN);
        d.refused("join(0, 5, 0)", () -> ofTrees(12), q -> q.join(0, 5, 0), OUTSIDE);
        d.refused("join(0, 0, 100)", () -> ofTrees(12), q -> q.join(0, 0, 100), OUTSIDE);
    }

    static void promise10_itIsAtTheEndAndNotBid() {
        PoplarQueue q = Due.busy();
        d.due("join", q.join(0, 2, 8), 7);
        d.stand("it", q, "2 90 6 7 | 3 55");
        int[] want = {2, 8, 0, 3, 0, 0};
        for (int what = 0; what < 6; what++) {
            d.due("tree(7, " + what + ")", q.tree(7, what), want[what]);
        }
    }

    static void promise10_oneThatJoinsWhereAnotherWasUndoneIsNew() {
        PoplarQueue q = new PoplarQueue();
        q.join(0, 2, 8);
        q.night();
        q.undo();
        q.undo();
        d.due("join", q.join(1, 0, 3), 0);
        d.due("kind", q.tree(0, 0), 0);
        d.due("bids", q.tree(0, 5), 0);
        d.due("line", q.tree(0, 2), 1);
    }

    // ---- 11

    static void promise11_noSuchTreeIsUnknown() {
        for (int tree : new int[] {-1, 7, 12, MOST, LEAST}) {
            d.refusedBusy("home(" + tree + ")", q -> q.home(tree), UNKNOWN);
        }
    }

    static void promise11_oneThatIsCalledIsNot() {
        d.refusedBusy("home(0)", q -> q.home(0), NOT);
    }

    static void promise11_oneThatIsHomeIsNot() {
        d.refusedBusy("home(5)", q -> q.home(5), NOT);
    }

    static void promise11_itsPlaceIsTheOneByNow() {
        PoplarQueue q = Due.told("poplar 0 1;poplar 0 2;poplar 0 3");
        q.night();
        d.due("home", q.home(2), 1);
        d.stand("it", q, "1 52 |");
    }

    static void promise11_stumpsAndFarmersCanGoToo() {
        PoplarQueue q = Due.busy();
        d.due("home of a stump", q.home(3), 0);
        d.due("home of a farmer", q.home(2), 0);
        d.stand("it", q, "52 90 6 | 53 55");
        d.due("at home", q.count(7), 1 << 2 | 1 << 3 | 1 << 5);
    }

    static void promise11_aLineKeepsItsPlaces() {
        PoplarQueue q = Due.told("poplar 0 1");
        q.home(0);
        d.due("places", q.count(1), 1);
        d.due("a night can be", q.night(), NOBODY);
    }

    static void promise11_oneOfTwelveCanGo() {
        PoplarQueue q = Due.told("gap 0;".repeat(11) + "old 0 1");
        d.due("home", q.home(0), 11);
        d.due("at(0, 11)", q.at(0, 11), 50);
    }

    // ---- 12

    static void promise12_noSuchTreeIsUnknown() {
        for (int tree : new int[] {-1, 7, 12, MOST, LEAST}) {
            d.refusedBusy("back(" + tree + ")", q -> q.back(tree), UNKNOWN);
        }
    }

    static void promise12_oneThatStandsIsNot() {
        d.refusedBusy("back(6)", q -> q.back(6), NOT);
    }

    static void promise12_oneThatIsCalledIsNot() {
        d.refusedBusy("back(0)", q -> q.back(0), NOT);
    }

    static void promise12_itIsWhereItsGapIsByNow() {
        PoplarQueue q = Due.told("poplar 0 1;old 0 2;poplar 0 3");
        q.home(1);
        q.night();
        d.due("back", q.back(1), 0);
        d.stand("it", q, "1 2 |");
    }

    static void promise12_itIsBidAsOftenAsItWas() {
        PoplarQueue q = nightOf("old 0 1;gap 1", NOBODY, "0 | 90");
        q.home(0);
        d.due("bids at home", q.tree(0, 5), 1);
        q.back(0);
        d.due("bids", q.tree(0, 5), 1);
    }

    /** The gap of tree 0 has gone; it was bid once ahead of that. */
    private static PoplarQueue gapGone() {
        PoplarQueue q = Due.told("old 1 1;poplar 1 2;poplar 1 3;law 1");
        q.night();
        q.home(0);
        q.night();
        return q;
    }

    static void promise12_itIsAtTheEndIfItsGapIsGone() {
        PoplarQueue q = gapGone();
        d.stand("the gap has gone", q, "| 1 2");
        d.due("back", q.back(0), 2);
        d.stand("it", q, "| 1 2 0");
    }

    static void promise12_itIsBid0TimesIfItsGapIsGone() {
        PoplarQueue q = gapGone();
        d.due("bids at home", q.tree(0, 5), 1);
        q.back(0);
        d.due("bids", q.tree(0, 5), 0);
    }

    static void promise12_theLineIsTheOneOutOfWhichItWent() {
        PoplarQueue q = gapGone();
        q.back(0);
        d.due("line", q.tree(0, 2), 1);
        PoplarQueue alone = Due.told("poplar 1 1");
        alone.home(0);
        alone.night();
        d.due("back to a line without places", alone.back(0), 0);
        d.stand("it", alone, "| 0");
    }

    /** Tree 0 is at home, its gap has gone, and its line has some gaps. */
    private static PoplarQueue gapGoneOf(int places) {
        PoplarQueue q = Due.told("poplar 0 1" + ";gap 0".repeat(11));
        q.home(0);
        q.night();
        for (int i = 11; i < places; i++) {
            q.join(0, 3, 3);
        }
        return q;
    }

    static void promise12_aLineOf12PlacesIsFull() {
        d.refused("back to 12 places", () -> gapGoneOf(12), q -> q.back(0), FULL);
    }

    static void promise12_aLineOf11PlacesIsNot() {
        d.due("back to 11 places", gapGoneOf(11).back(0), 11);
    }

    static void promise12_itsGapInALineOf12PlacesIsItsOwn() {
        PoplarQueue q = Due.told("stump 0 1;poplar 0 1" + ";gap 0".repeat(10));
        q.home(1);
        d.due("back to its gap", q.back(1), 1);
        d.due("places", q.count(1), 12);
    }

    static void promise12_theOtherLineOf12PlacesIsNoMatter() {
        PoplarQueue q = Due.told("poplar 1 1" + ";gap 0".repeat(12) + ";law 2");
        q.law(0);
        q.home(0);
        q.night();
        q.night();
        q.join(0, 3, 3);
        d.due("places of line 0", q.count(1), 12);
        d.due("back to line 1", q.back(0), 0);
    }

    static void promise12_itCanGoAndComeAgain() {
        PoplarQueue q = gapGone();
        q.back(0);
        d.due("home again", q.home(0), 2);
        d.stand("home again", q, "| 1 2 50");
        d.due("back again", q.back(0), 2);
        d.due("back once more", q.back(0), NOT);
    }

    // ---- 13

    static void promise13_noSuchTreeIsUnknown() {
        for (int tree : new int[] {-1, 7, 12, MOST, LEAST}) {
            d.refusedBusy("fell(" + tree + ")", q -> q.fell(tree), UNKNOWN);
        }
    }

    static void promise13_oneInNoLineIsNot() {
        d.refusedBusy("fell of a called one", q -> q.fell(0), NOT);
        d.refusedBusy("fell of one at home", q -> q.fell(5), NOT);
    }

    static void promise13_aFarmerIsNot() {
        d.refusedBusy("fell(2)", q -> q.fell(2), NOT);
    }

    static void promise13_theKindThatItWasIsTold() {
        PoplarQueue q = Due.told("poplar 0 1;pusher 0 22;old 1 3;stump 1 4");
        for (int tree = 0; tree < 4; tree++) {
            d.due("fell(" + tree + ")", q.fell(tree), tree);
            d.due("kind then", q.tree(tree, 0), 4);
        }
    }

    static void promise13_itKeepsRootLineAndPlace() {
        PoplarQueue q = Due.told("gap 1;gap 1;old 1 42");
        q.fell(0);
        d.due("root", q.tree(0, 1), 42);
        d.due("line", q.tree(0, 2), 1);
        d.due("place", q.tree(0, 3), 2);
        d.due("it stands", q.tree(0, 4), 0);
    }

    static void promise13_itIsBid0Times() {
        PoplarQueue q = nightOf("old 0 1", NOBODY, "0 |");
        q.fell(0);
        d.due("bids", q.tree(0, 5), 0);
        nights(q, NOBODY, NOBODY, 0);
    }

    static void promise13_aStumpThatWasFelledIsCalled() {
        PoplarQueue q = Due.told("stump 0 1");
        q.fell(0);
        nights(q, NOBODY, NOBODY, 0);
    }

    static void promise13_aPusherThatWasFelledDoesNotPush() {
        PoplarQueue q = Due.told("poplar 0 1;pusher 0 9");
        q.fell(1);
        nights(q, 0);
    }

    // ---- 14

    static void promise14_anotherLawIsOutside() {
        for (int law : new int[] {-1, 3, MOST, LEAST}) {
            d.refusedBusy("law(" + law + ")", q -> q.law(law), OUTSIDE);
        }
    }

    static void promise14_theSameLawIsNot() {
        d.refusedBusy("law(1)", q -> q.law(1), NOT);
        for (int law = 0; law <= 2; law++) {
            int same = law;
            d.refused("law(" + law + ")", () -> Due.told("law " + same), q -> q.law(same), NOT);
        }
    }

    static void promise14_theOneThatItWasIsTold() {
        PoplarQueue q = new PoplarQueue();
        int[] laws = {1, 2, 0, 2, 1, 0};
        int was = 0;
        for (int law : laws) {
            d.due("law(" + law + ")", q.law(law), was);
            d.due("the law then", q.count(3), law);
            was = law;
        }
    }

    static void promise14_theTurnIsAsItIs() {
        PoplarQueue q = Due.told("poplar 0 1;stump 1 1");
        q.night();
        q.law(2);
        d.due("the turn", q.count(5), 1);
        q.law(0);
        d.due("the turn by turns again", q.count(5), 1);
    }

    // ---- 15

    static void promise15_undoOfNothingIsNot() {
        d.refused("undo", PoplarQueue::new, PoplarQueue::undo, NOT);
        d.refused("undo behind plain", () -> Due.told("old 0 1;law 1"), PoplarQueue::undo, NOT);
    }

    static void promise15_undoOfTheFirstLeaves0() {
        PoplarQueue q = new PoplarQueue();
        q.join(0, 0, 5);
        d.due("undo", q.undo(), 0);
        d.due("undo again", q.undo(), NOT);
    }

    private static PoplarQueue afterNights(int nights) {
        PoplarQueue q = Due.told("stump 0 1");
        for (int i = 0; i < nights; i++) {
            q.night();
        }
        return q;
    }

    static void promise15_theLast8CanBeUndone() {
        d.due("to undo of 7", afterNights(7).count(10), 7);
        d.due("to undo of 8", afterNights(8).count(10), 8);
        d.due("to undo of 9", afterNights(9).count(10), 8);
        PoplarQueue q = afterNights(9);
        for (int left = 7; left >= 0; left--) {
            d.due("undo", q.undo(), left);
            d.due("the night", q.count(4), 1 + left);
        }
        d.due("undo of a ninth", q.undo(), NOT);
        d.due("the night stays", q.count(4), 1);
    }

    static void promise15_manyNightsLaterItIsStillTheLast8() {
        PoplarQueue q = afterNights(100);
        for (int left = 7; left >= 0; left--) {
            d.due("undo", q.undo(), left);
        }
        d.due("undo of a ninth", q.undo(), NOT);
        d.due("the night", q.count(4), 92);
    }

    static void promise15_whatIsDoneBehindAnUndoCanBeUndone() {
        PoplarQueue q = afterNights(9);
        q.undo();
        q.undo();
        q.law(1);
        d.due("to undo", q.count(10), 7);
        d.due("undo of the law", q.undo(), 6);
        d.due("the law", q.count(3), 0);
        d.due("the night", q.count(4), 7);
        d.due("undo of a night", q.undo(), 5);
        d.due("the night", q.count(4), 6);
    }

    static void promise15_aTreeThatJoinedIsNotThereThen() {
        PoplarQueue q = Due.told("old 0 1");
        q.join(1, 4, 7);
        q.undo();
        d.due("trees", q.count(0), 1);
        d.due("tree(1, 0)", q.tree(1, 0), UNKNOWN);
        d.stand("undo", q, "0 |");
        d.due("the number is free", q.join(0, 0, 3), 1);
    }

    static void promise15_aNightIsUndoneWhole() {
        PoplarQueue q = Due.told("old 0 1;poplar 1 1;pusher 1 5");
        String told = Look.atNow(q);
        q.night();
        q.night();
        d.due("called ahead of undo", q.count(6), 4);
        d.due("undo", q.undo(), 1);
        d.stand("undo", q, "0 | 2 1");
        d.due("called", q.count(6), 0);
        d.due("bids of 2", q.tree(2, 5), 0);
        d.due("undo", q.undo(), 0);
        d.same("all as it was told", Look.atNow(q), told);
    }

    static void promise15_homeIsUndone() {
        PoplarQueue q = Due.told("poplar 0 1;poplar 0 2");
        q.home(0);
        q.undo();
        d.stand("undo", q, "0 1 |");
        d.due("back", q.back(0), NOT);
    }

    static void promise15_backIsUndone() {
        PoplarQueue q = gapGone();
        q.back(0);
        q.undo();
        d.stand("undo", q, "| 1 2");
        d.due("at home", q.tree(0, 4), 2);
        d.due("bids as they were", q.tree(0, 5), 1);
    }

    static void promise15_fellIsUndone() {
        PoplarQueue q = nightOf("old 0 1", NOBODY, "0 |");
        q.fell(0);
        q.undo();
        d.due("kind", q.tree(0, 0), 2);
        d.due("bids", q.tree(0, 5), 1);
    }

    static void promise15_lawIsUndone() {
        PoplarQueue q = new PoplarQueue();
        q.law(2);
        q.law(1);
        q.undo();
        d.due("the law", q.count(3), 2);
    }

    static void promise15_whatWasRefusedIsNotOfThem() {
        PoplarQueue q = Due.told("old 0 1");
        q.law(1);
        q.law(1);
        q.law(9);
        q.home(5);
        q.back(0);
        q.fell(-1);
        q.join(2, 0, 0);
        d.due("to undo", q.count(10), 1);
        d.due("undo", q.undo(), 0);
        d.due("the law", q.count(3), 0);
    }

    static void promise15_noOtherCallIsOfThem() {
        PoplarQueue q = Due.told("old 0 1");
        q.law(1);
        q.keep(0);
        q.seen(3, 1);
        q.forget();
        q.bag(0, 3);
        q.hold(0, 0, 0, 5);
        q.wrap(0, 0);
        q.open(0, 0);
        q.move(0, 0, 0, 1, 1);
        q.drop(0);
        q.when(0);
        q.best(0, 0);
        q.send(0, 5);
        Due.write(q, "law");
        q.erase();
        d.due("to undo", q.count(10), 1);
    }

    static void promise15_seenBagsAndTextAreNotUndone() {
        PoplarQueue q = Due.told("old 0 1");
        q.law(1);
        q.seen(3, 1);
        q.bag(0, 3);
        q.hold(0, 0, 0, 5);
        Due.write(q, "law");
        q.undo();
        d.due("seen", q.count(8), 1);
        d.due("held", q.held(0, 0, 0), 5);
        d.due("letters", q.count(11), 3);
    }

    // ---- 16

    static void promise16_noSuchKIsUnknown() {
        for (int k : new int[] {-1, 2, MOST, LEAST}) {
            d.refusedBusy("keep(" + k + ")", q -> q.keep(k), UNKNOWN);
        }
    }

    static void promise16_theNightIsTold() {
        d.due("keep in night 0", new PoplarQueue().keep(1), 0);
        d.due("keep in night 3", Due.busy().keep(0), 3);
    }

    static void promise16_aPlainWithoutTreesCanBeKept() {
        PoplarQueue q = new PoplarQueue();
        q.keep(0);
        q.join(0, 0, 5);
        d.due("again", q.again(0), 0);
        d.due("trees", q.count(0), 0);
    }

    static void promise16_theTwoAreApart() {
        PoplarQueue q = afterNights(1);
        q.keep(0);
        q.night();
        q.keep(1);
        q.night();
        d.due("again(0)", q.again(0), 1);
        d.due("again(1)", q.again(1), 2);
        d.due("again(0)", q.again(0), 1);
    }

    static void promise16_theLaterOneIsKept() {
        PoplarQueue q = afterNights(1);
        q.keep(0);
        q.night();
        q.keep(0);
        q.night();
        d.due("again(0)", q.again(0), 2);
    }

    static void promise16_whatIsKeptStaysWhateverIsDone() {
        PoplarQueue q = Due.told("old 0 1;poplar 1 2");
        String told = Look.atNow(q);
        q.keep(0);
        q.night();
        q.night();
        q.fell(0);
        q.home(0);
        q.join(0, 1, 9);
        q.law(2);
        q.again(0);
        d.same("all as it was kept", Look.atNow(q), told);
    }

    static void promise16_keepChangesNothing() {
        PoplarQueue kept = Due.busy();
        kept.keep(1);
        d.same("what is now", Look.atNow(kept), Look.atNow(Due.busy()));
        d.same("what can be undone", Look.atPast(kept), Look.atPast(Due.busy()));
    }

    // ---- 17

    static void promise17_noSuchKIsUnknown() {
        for (int k : new int[] {-1, 2, MOST, LEAST}) {
            d.refusedBusy("again(" + k + ")", q -> q.again(k), UNKNOWN);
        }
    }

    static void promise17_nothingKeptIsNot() {
        for (int k = 0; k < 2; k++) {
            int wanted = k;
            d.refused("again(" + k + ")", () -> afterNights(3), q -> q.again(wanted), NOT);
        }
    }

    static void promise17_theOtherBeingKeptIsNot() {
        for (int k = 0; k < 2; k++) {
            PoplarQueue q = afterNights(3);
            q.keep(k);
            d.due("again(" + (1 - k) + ")", q.again(1 - k), NOT);
        }
    }

    static void promise17_whatWasKeptAheadOfTheLastTextIsNot() {
        PoplarQueue q = afterNights(3);
        q.keep(0);
        q.keep(1);
        Due.tell(q, "gap 0");
        d.due("again(0)", q.again(0), NOT);
        d.due("again(1)", q.again(1), NOT);
        q.keep(1);
        d.due("again(1) behind keep", q.again(1), 0);
    }

    static void promise17_aTextWithAFaultLeavesWhatIsKept() {
        PoplarQueue q = afterNights(3);
        q.keep(0);
        Due.tell(q, "gap 7");
        d.due("again(0)", q.again(0), 3);
    }

    static void promise17_nothingCanBeUndoneThen() {
        PoplarQueue q = Due.busy();
        q.again(1);
        d.due("to undo", q.count(10), 0);
        d.due("undo", q.undo(), NOT);
        q.night();
        d.due("undo of what came then", q.undo(), 0);
    }

    static void promise17_itIsAsItWasKept() {
        PoplarQueue q = Due.busy();
        d.due("again(1)", q.again(1), 2);
        d.stand("again(1)", q, "0 2 90 6 | 3 55");
        d.due("the law", q.count(3), 1);
        d.due("called", q.count(6), 1 << 1 | 1 << 4);
        d.due("at home", q.count(7), 1 << 5);
        d.due("kind of 2", q.tree(2, 0), 4);
        d.due("again(0)", q.again(0), 0);
        d.stand("again(0)", q, "0 1 2 90 | 3 4 5");
        d.due("trees", q.count(0), 6);
        d.due("the law", q.count(3), 0);
        d.due("called", q.count(6), 0);
        d.due("kind of 2", q.tree(2, 0), 2);
    }

    static void promise17_theTurnIsAsItWasKept() {
        PoplarQueue q = Due.told("stump 0 1;stump 1 1");
        q.night();
        q.keep(0);
        q.night();
        q.again(0);
        d.due("the turn", q.count(5), 1);
    }

    static void promise17_seenAndBagsAreAsTheyAre() {
        PoplarQueue q = Due.busy();
        q.again(0);
        d.due("seen", q.count(8), 2);
        d.same("bags", Look.atBags(q), Look.atBags(Due.busy()));
        q.seen(1, 0);
        q.again(1);
        d.due("seen", q.count(8), 3);
    }

    static void promise17_itCanBeSoOftenAgain() {
        PoplarQueue q = afterNights(3);
        q.keep(0);
        for (int i = 0; i < 3; i++) {
            q.night();
            d.due("again", q.again(0), 3);
        }
    }
}
