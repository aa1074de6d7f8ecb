/** The edges of promises 1 to 8, each sentence by itself. */
public final class EdgesToldTest {
    private static final Due d = new Due("EdgesToldTest");
    private static final int NONE = PoplarQueue.NONE, UNKNOWN = PoplarQueue.UNKNOWN, OUTSIDE = PoplarQueue.OUTSIDE;
    private static final int NOT = PoplarQueue.NOT, FULL = PoplarQueue.FULL, NULL = PoplarQueue.NULL;
    private static final int MOST = Integer.MAX_VALUE, LEAST = Integer.MIN_VALUE;
    private static final String SIX_AND_SIX = "old 0 1;".repeat(6) + "old 1 1;".repeat(6);

    public static void main(String[] args) {
        Promises.run(EdgesToldTest.class, d, 1, 8);
    }

    // ---- 1

    static void promise01_thereAreNoTrees() {
        PoplarQueue q = new PoplarQueue();
        d.due("count(0)", q.count(0), 0);
        d.due("tree(0, 0)", q.tree(0, 0), UNKNOWN);
        d.due("called", q.count(6), 0);
        d.due("at home", q.count(7), 0);
    }

    static void promise01_thereAreNoPlaces() {
        PoplarQueue q = new PoplarQueue();
        for (int line = 0; line < 2; line++) {
            d.due("places", q.count(1 + line), 0);
            d.due("at place 0", q.at(line, 0), UNKNOWN);
        }
        d.due("night", q.night(), NOT);
    }

    static void promise01_allBagsAreMissing() {
        PoplarQueue q = new PoplarQueue();
        d.due("count(9)", q.count(9), 0);
        for (int bag = 0; bag < 3; bag++) {
            d.due("held", q.held(bag, 0, 0), NULL);
            d.due("drop", q.drop(bag), NULL);
        }
    }

    static void promise01_theLawIsTurnsAndLine0HasTheFirst() {
        PoplarQueue q = new PoplarQueue();
        d.due("the law", q.count(3), 0);
        d.due("the turn", q.count(5), 0);
        d.due("law(0)", q.law(0), NOT);
    }

    static void promise01_itIsNight0() {
        d.due("the night", new PoplarQueue().count(4), 0);
        d.due("keep", new PoplarQueue().keep(0), 0);
    }

    static void promise01_nothingIsSeen() {
        PoplarQueue q = new PoplarQueue();
        d.due("count(8)", q.count(8), 0);
        d.due("forget", q.forget(), 0);
        d.due("laws", q.laws(), 7);
    }

    static void promise01_nothingIsKeptOrCanBeUndone() {
        PoplarQueue q = new PoplarQueue();
        d.due("count(10)", q.count(10), 0);
        d.due("undo", q.undo(), NOT);
        d.due("again(0)", q.again(0), NOT);
        d.due("again(1)", q.again(1), NOT);
    }

    static void promise01_theTextIsEmpty() {
        PoplarQueue q = new PoplarQueue();
        d.due("count(11)", q.count(11), 0);
        d.due("erase", q.erase(), 0);
        d.due("write", q.write('a'), 1);
    }

    static void promise01_oneObjectHasNothingOfAnother() {
        Due.busy();
        d.same("a new one beside a busy one", Look.atCounts(new PoplarQueue()), "0 0 0 0 0 0 0 0 0 0 0 0");
    }

    // ---- 2

    static void promise02_aLetterBelow0IsOutside() {
        d.refusedBusy("write(-1)", q -> q.write(-1), OUTSIDE);
        d.refusedBusy("write(least)", q -> q.write(LEAST), OUTSIDE);
    }

    static void promise02_aLetterAbove255IsOutside() {
        d.refusedBusy("write(256)", q -> q.write(256), OUTSIDE);
        d.refusedBusy("write(256 + 'a')", q -> q.write(256 + 'a'), OUTSIDE);
        d.refusedBusy("write(most)", q -> q.write(MOST), OUTSIDE);
    }

    static void promise02_letter0IsTaken() {
        d.due("write(0)", new PoplarQueue().write(0), 1);
    }

    static void promise02_letter255IsTaken() {
        d.due("write(255)", new PoplarQueue().write(255), 1);
    }

    private static PoplarQueue lettered(int letters) {
        PoplarQueue q = new PoplarQueue();
        Due.write(q, " ".repeat(letters));
        return q;
    }

    static void promise02_the200thLetterIsTaken() {
        d.due("write of the 200th", lettered(199).write('a'), 200);
        PoplarQueue q = lettered(195);
        Due.write(q, "law 1");
        d.due("all of them are read", q.plain(), 1);
        d.due("the law that stands in the last five", q.count(3), 1);
    }

    static void promise02_the201stLetterIsFull() {
        d.refused("write of the 201st", () -> lettered(200), q -> q.write('a'), FULL);
    }

    static void promise02_outsideComesAheadOfFull() {
        d.refused("write(256) to 200", () -> lettered(200), q -> q.write(256), OUTSIDE);
        d.refused("write(-1) to 200", () -> lettered(200), q -> q.write(-1), OUTSIDE);
    }

    static void promise02_aFullTextHasRoomBehindErase() {
        PoplarQueue q = lettered(200);
        q.erase();
        d.due("write", q.write('a'), 1);
    }

    static void promise02_aFullTextHasRoomBehindPlain() {
        PoplarQueue q = lettered(195);
        Due.write(q, "law 1");
        q.plain();
        d.due("write", q.write('a'), 1);
    }

    // ---- 3

    static void promise03_eraseOfNothingIs0() {
        d.due("erase", new PoplarQueue().erase(), 0);
        PoplarQueue q = Due.told("gap 0");
        d.due("erase behind plain", q.erase(), 0);
    }

    static void promise03_eraseOfAllIs200() {
        PoplarQueue q = lettered(200);
        q.write('a');
        d.due("erase", q.erase(), 200);
        d.due("erase again", q.erase(), 0);
    }

    static void promise03_theTextIsEmptyThen() {
        PoplarQueue q = new PoplarQueue();
        Due.write(q, "gap 0;gap 0;gap 0");
        q.erase();
        d.due("letters", q.count(11), 0);
        d.due("fault", q.fault(), 0);
        Due.write(q, "law 1");
        d.due("clauses of the next text", q.plain(), 1);
        d.due("places", q.count(1), 0);
    }

    static void promise03_allElseStays() {
        PoplarQueue erased = Due.busy();
        erased.erase();
        PoplarQueue busy = Due.busy();
        d.same("lines", Look.atLines(erased), Look.atLines(busy));
        d.same("trees", Look.atTrees(erased), Look.atTrees(busy));
        d.same("bags", Look.atBags(erased), Look.atBags(busy));
        d.due("seen", erased.count(8), 2);
        d.due("to undo", erased.count(10), 7);
        d.due("again(0)", erased.again(0), 0);
        d.due("again(1)", erased.again(1), 2);
    }

    // ---- 4

    private static void faultOf(String text, int want) {
        PoplarQueue q = new PoplarQueue();
        Due.write(q, text);
        d.due("fault of '" + text + "'", q.fault(), want);
    }

    private static void faultsOf(int want, String... texts) {
        for (String text : texts) {
            faultOf(text, want);
        }
    }

    /** The fault of a text behind others that are done. */
    private static void faultBehind(String earlier, String text, int want) {
        PoplarQueue q = Due.told(earlier);
        Due.write(q, text);
        d.due("fault of '" + text + "' behind '" + earlier + "'", q.fault(), want);
    }

    static void promise04_anEmptyTextHasItAt0() {
        faultOf("", 0);
    }

    static void promise04_blanksAloneHaveItAtTheLength() {
        faultOf(" ", 1);
        faultOf("   ", 3);
        faultOf(" ".repeat(200), 200);
    }

    static void promise04_eachClauseAloneHasNone() {
        faultsOf(NONE, "plain", "poplar 0 0", "pusher 0 0", "old 0 0", "stump 0 0", "gap 0", "law 0");
    }

    static void promise04_theEndBehindAWordComesTooSoon() {
        faultOf("poplar", 6);
        faultOf("pusher", 6);
        faultOf("old", 3);
        faultOf("stump", 5);
        faultOf("gap", 3);
        faultOf("law", 3);
        faultOf("law  ", 5);
        faultOf("plain", NONE);
    }

    static void promise04_theEndBehindALineComesTooSoon() {
        faultOf("poplar 0", 8);
        faultOf("pusher 1", 8);
        faultOf("old 0", 5);
        faultOf("stump 1 ", 8);
        faultOf("gap 1", NONE);
    }

    static void promise04_theEndBehindASemicolonComesTooSoon() {
        faultOf("plain;", 6);
        faultOf("law 1; ", 7);
        faultOf("poplar 0 5;gap 1;", 17);
    }

    static void promise04_aSemicolonCannotStandForAClause() {
        faultOf(";", 0);
        faultOf(" ;plain", 1);
        faultOf("plain;;plain", 6);
        faultOf("plain; ;plain", 7);
    }

    static void promise04_aSemicolonCannotStandInAClause() {
        faultOf("poplar;0 5", 6);
        faultOf("poplar 0;5", 8);
        faultOf("gap;0", 3);
        faultOf("law;0", 3);
    }

    static void promise04_aWordIsAWholeRowOfLetters() {
        faultsOf(0, "plai", "plains", "popla 0 1", "poplars 0 1", "pushe 0 1", "pushers 0 1", "ol 0 1", "olds 0 1", "stum 0 1",
            "stumps 0 1", "ga 0", "gaps 0", "la 0", "laws 0", "lawgap 0", "p", "a", "z");
    }

    static void promise04_aWordIsRightInEachOfItsLetters() {
        for (String clause : new String[] {"plain", "poplar 0 1", "pusher 0 1", "old 0 1", "stump 0 1", "gap 0", "law 0"}) {
            for (int i = 0; i < clause.length() && clause.charAt(i) != ' '; i++) {
                StringBuilder other = new StringBuilder(clause);
                other.setCharAt(i, 'x');
                faultOf(other.toString(), 0);
            }
        }
    }

    static void promise04_wordsHaveSmallLettersAlone() {
        faultsOf(0, "Plain", "PLAIN", "Law 0", "GAP 0");
        faultOf("law 0;Gap 1", 6);
        faultOf("plaiN", 0);
    }

    static void promise04_noWordTellsAFarmer() {
        faultsOf(0, "farmer 0 1", "tree 0 1");
    }

    static void promise04_aNumberCannotStandForAWord() {
        faultsOf(0, "0", "1 poplar", "07");
        faultOf("law 0;1", 6);
    }

    static void promise04_aWordCannotStandForANumber() {
        faultOf("poplar x 5", 7);
        faultOf("poplar 0 x", 9);
        faultOf("gap gap", 4);
        faultOf("law plain", 4);
    }

    static void promise04_nothingCanStandBehindAClauseButASemicolon() {
        faultOf("plain 1", 6);
        faultOf("plain plain", 6);
        faultOf("poplar 0 5 6", 11);
        faultOf("pusher 0 5 6", 11);
        faultOf("old 0 5 6", 8);
        faultOf("stump 0 5 6", 10);
        faultOf("gap 0 0", 6);
        faultOf("law 0 0", 6);
        faultOf("law 0law 0", 5);
        faultOf("law 0 gap 1", 6);
        faultOf("law 0,gap 1", 5);
    }

    static void promise04_aLineIs0Or1() {
        for (String word : new String[] {"poplar", "pusher", "old", "stump"}) {
            faultOf(word + " 0 5", NONE);
            faultOf(word + " 1 5", NONE);
            faultOf(word + " 2 5", word.length() + 1);
            faultOf(word + " 10 5", word.length() + 1);
            faultOf(word + " 99 5", word.length() + 1);
        }
        faultOf("gap 0", NONE);
        faultOf("gap 1", NONE);
        faultOf("gap 2", 4);
        faultOf("gap 11", 4);
    }

    static void promise04_aRootIs0To99() {
        for (String word : new String[] {"poplar", "pusher", "old", "stump"}) {
            faultOf(word + " 0 0", NONE);
            faultOf(word + " 0 99", NONE);
            faultOf(word + " 0 100", word.length() + 3);
        }
    }

    static void promise04_aLawIs0To2() {
        faultsOf(NONE, "law 0", "law 1", "law 2");
        faultsOf(4, "law 3", "law 9", "law 20", "law 99");
    }

    static void promise04_aNumberHasTwoDigitsAtMost() {
        faultsOf(NONE, "poplar 00 00", "poplar 01 09", "gap 00", "gap 01", "law 00", "law 02");
        faultsOf(4, "gap 000", "gap 001", "law 000", "law 002", "old 000 5", "old 001 5");
        faultOf("old 1 000", 6);
        faultOf("old 1 005", 6);
        faultOf("old 1 099", 6);
        faultOf("old 1 " + "0".repeat(190), 6);
        faultOf("old 1 4294967296", 6);
        faultOf("gap 4294967297", 4);
    }

    static void promise04_aNumberHasNoSign() {
        faultOf("poplar -0 5", 7);
        faultOf("poplar 0 +5", 9);
        faultOf("law -1", 4);
    }

    static void promise04_anyOtherLetterIsATokenOfItsOwn() {
        int[] others = {0, 1, 9, 10, 13, 31, 33, '/', ':', '<', '@', 'A', 'Z', '[', '`', '{', 127, 128, 160, 254, 255};
        for (int other : others) {
            String o = "" + (char) other;
            faultOf(o, 0);
            faultOf("plain" + o, 5);
            faultOf("pla" + o + "in", 0);
            faultOf("gap " + o, 4);
            faultOf("law 0" + o + "1", 5);
            faultOf("law 0 " + o + o, 6);
        }
    }

    static void promise04_theFirstAndTheLastSmallLetterAreOfAWord() {
        faultOf("plaina", 0);
        faultOf("plainz", 0);
        faultOf("plain`", 5);
        faultOf("plain{", 5);
    }

    static void promise04_theFirstAndTheLastDigitAreOfANumber() {
        faultOf("old 0 100", 6);
        faultOf("old 0 999", 6);
        faultOf("old 0 99/", 8);
        faultOf("old 0 99:", 8);
    }

    static void promise04_blanksMayStandBetweenAnyTwoTokens() {
        faultsOf(NONE, "  plain", "plain  ", "poplar   0   5", "gap 0 ; gap 1", "  law  1  ;  law  2  ");
        faultOf("   law 3", 7);
        faultOf("law   3", 6);
    }

    static void promise04_blanksNeedNotStandWhereTokensPart() {
        faultsOf(NONE, "poplar0 5", "gap0;law2", "plain;plain");
        faultOf("law3", 3);
    }

    static void promise04_aBlankPartsAWordAndANumber() {
        faultOf("pla in", 0);
        faultOf("law 0 2", 6);
        faultOf("old 0 9 9", 8);
        faultOf("old 0 1 00", 8);
        faultOf("poplar 05", 7);
    }

    static void promise04_theTwelfthTreeCanStand() {
        faultOf(SIX_AND_SIX.substring(0, 95), NONE);
        faultOf("old 0 1;".repeat(11) + "old 0 1", NONE);
    }

    static void promise04_aThirteenthTreeHasItAtItsWord() {
        for (String word : new String[] {"poplar", "pusher", "old", "stump"}) {
            faultOf(SIX_AND_SIX + word + " 0 1", 96);
        }
        faultOf(SIX_AND_SIX + "  old 1 1", 98);
    }

    static void promise04_aThirteenthTreeHasItThereWhateverFollows() {
        faultOf(SIX_AND_SIX + "old", 96);
        faultOf(SIX_AND_SIX + "old 2", 96);
        faultOf(SIX_AND_SIX + "old 0 100", 96);
        faultOf("old 0 1;".repeat(12) + "old 0 1", 96);
        faultOf(SIX_AND_SIX + "old 1 1;" + "law 9", 96);
    }

    static void promise04_aThirteenthTreeCannotStandInALaterTextEither() {
        faultBehind(SIX_AND_SIX + "law 1", "stump 0 1", 0);
        faultBehind(SIX_AND_SIX.substring(0, 87), "old 0 1", NONE);
        faultBehind(SIX_AND_SIX.substring(0, 87), "old 0 1;old 0 1", 8);
    }

    static void promise04_twelveTreesLeaveRoomForGapsAndLaws() {
        faultOf(SIX_AND_SIX + "gap 0;law 1", NONE);
    }

    static void promise04_theTwelfthPlaceCanStand() {
        faultOf("gap 0;".repeat(11) + "gap 0", NONE);
        faultOf("gap 1;".repeat(11) + "old 1 5", NONE);
    }

    static void promise04_aThirteenthPlaceHasItAtItsLine() {
        faultOf("gap 0;".repeat(12) + "gap 0", 76);
        faultOf("gap 1;".repeat(12) + "gap  1", 77);
        faultOf("gap 1;".repeat(12) + "gap 01", 76);
        for (String word : new String[] {"poplar", "pusher", "old", "stump"}) {
            faultOf("gap 0;".repeat(12) + word + " 0 5", 73 + word.length());
            faultOf("gap 1;".repeat(12) + word + " 1 5", 73 + word.length());
        }
        faultOf("gap 0;".repeat(12) + "old 0", 76);
        faultOf("gap 0;".repeat(12) + "old 0 100", 76);
    }

    static void promise04_theOtherLineHasRoomStill() {
        faultOf("gap 0;".repeat(12) + "gap 1;old 1 5", NONE);
        faultOf("gap 1;".repeat(12) + "gap 0;old 0 5", NONE);
    }

    static void promise04_aThirteenthPlaceCannotStandInALaterTextEither() {
        faultBehind("gap 0;".repeat(11) + "gap 0", "gap 0", 4);
        faultBehind("gap 1;".repeat(10) + "gap 1", "gap 1", NONE);
        faultBehind("gap 1;".repeat(10) + "gap 1", "gap 1;old 1 1", 10);
    }

    static void promise04_thePlainClauseMakesRoom() {
        faultOf(SIX_AND_SIX + "plain;old 0 1", NONE);
        faultOf("gap 0;".repeat(12) + "plain;gap 0", NONE);
        faultBehind(SIX_AND_SIX + "law 1", "plain;old 0 1", NONE);
        faultBehind(SIX_AND_SIX + "law 1", "old 0 1;plain", 0);
    }

    static void promise04_roomIsByWhatWasToldNotByWhatWasDone() {
        PoplarQueue q = Due.told("gap 0;".repeat(11) + "gap 0");
        q.night();
        Due.write(q, "gap 0");
        d.due("fault where a gap has gone", q.fault(), 4);
        PoplarQueue joined = new PoplarQueue();
        for (int i = 0; i < 12; i++) {
            joined.join(0, 0, 0);
        }
        Due.write(joined, "old 0 1");
        d.due("fault where twelve have joined", joined.fault(), NONE);
    }

    static void promise04_twentyClausesCanStand() {
        faultOf("law 0;".repeat(19) + "law 0", NONE);
        faultOf("plain;".repeat(19) + "plain  ", NONE);
    }

    /** No clause can follow the twentieth, so the sign that leads to one cannot stand. */
    static void promise04_theSemicolonBehindTheTwentiethCannotStand() {
        faultOf("law 0;".repeat(20) + "law 0", 119);
        faultOf("law 0;".repeat(20), 119);
        faultOf("law 0;".repeat(19) + "law 0  ;plain", 121);
    }

    static void promise04_theFirstOfSeveralFaultsIsTold() {
        faultOf("law 1;law 9;gap 7;old", 10);
        faultOf("gap 2;Plain", 4);
        faultOf("old 2 100", 4);
    }

    static void promise04_itIsWhereTheTokenBeginsNotWhereItIsWrong() {
        faultOf("law 0;plainx", 6);
        faultOf("law 0;  gap 123", 12);
    }

    static void promise04_faultChangesNothing() {
        d.refusedBusy("fault", PoplarQueue::fault, 9);
        PoplarQueue q = new PoplarQueue();
        Due.write(q, "old 0 1;gap 1;law 2");
        d.due("fault", q.fault(), NONE);
        d.due("fault again", q.fault(), NONE);
        d.same("nothing is done yet", Look.atCounts(q), "0 0 0 0 0 0 0 0 0 0 0 19");
    }

    // ---- 5

    static void promise05_aTextWithAFaultIsNot() {
        d.refusedBusy("plain of 'law 2;gap'", PoplarQueue::plain, NOT);
    }

    static void promise05_anEmptyTextIsNot() {
        d.refused("plain of nothing", PoplarQueue::new, PoplarQueue::plain, NOT);
        d.refused("plain of a plain that is told", () -> Due.told("old 0 1;law 1"), PoplarQueue::plain, NOT);
    }

    static void promise05_clausesAheadOfAFaultAreNotDone() {
        PoplarQueue q = Due.told("old 0 1");
        d.due("plain", Due.tell(q, "old 0 1;plain;law 2;gap 1;law 3"), NOT);
        d.same("nothing is done", Look.atCounts(q), "1 1 0 0 0 0 0 0 0 0 0 31");
        q.erase();
        Due.tell(q, "gap 0");
        d.stand("the next text", q, "0 90 |");
    }

    static void promise05_oneClauseIs1() {
        d.due("plain", Due.tell(new PoplarQueue(), "plain"), 1);
    }

    static void promise05_twentyClausesAre20() {
        PoplarQueue q = new PoplarQueue();
        d.due("plain", Due.tell(q, "gap 0;".repeat(12) + "law 1;".repeat(7) + "law 2"), 20);
        d.due("places", q.count(1), 12);
        d.due("the law of the last one", q.count(3), 2);
    }

    static void promise05_theTextIsEmptyThen() {
        PoplarQueue q = new PoplarQueue();
        Due.tell(q, "gap 0");
        d.due("letters", q.count(11), 0);
        d.due("fault", q.fault(), 0);
        d.due("plain again", q.plain(), NOT);
        d.due("places", q.count(1), 1);
    }

    static void promise05_clausesAreDoneInTheirOrder() {
        PoplarQueue q = Due.told("gap 1;law 1;plain;old 1 3;gap 1;stump 1 4;law 2;law 0");
        d.stand("it", q, "| 0 90 1");
        d.due("the law", q.count(3), 0);
        d.due("kind of 0", q.tree(0, 0), 2);
        d.due("kind of 1", q.tree(1, 0), 3);
    }

    static void promise05_thePlainClauseIsAllAsAtFirst() {
        PoplarQueue q = Due.busy();
        q.erase();
        d.due("plain", Due.tell(q, "plain"), 1);
        d.same("all as at first", Look.atCounts(q), "0 0 0 0 0 0 0 0 0 0 0 0");
        d.due("the next tree's number", q.join(1, 0, 0), 0);
    }

    static void promise05_thePlainClauseMakesTheLawTurns() {
        d.due("the law behind 'law 2;plain'", Due.told("law 2;plain").count(3), 0);
        PoplarQueue q = Due.told("law 2");
        Due.tell(q, "plain");
        d.due("the law behind 'law 2', then 'plain'", q.count(3), 0);
        Due.tell(q, "plain;law 1");
        d.due("the law behind 'plain;law 1'", q.count(3), 1);
    }

    static void promise05_rootsAreAsTold() {
        PoplarQueue q = Due.told("old 0 0;poplar 0 99;stump 1 09;pusher 1 00");
        int[] roots = {0, 99, 9, 0};
        for (int tree = 0; tree < 4; tree++) {
            d.due("root of " + tree, q.tree(tree, 1), roots[tree]);
        }
    }

    static void promise05_whatEarlierTextsToldStays() {
        PoplarQueue q = Due.told("old 0 1;gap 1;law 2");
        Due.tell(q, "poplar 1 8");
        d.stand("two texts", q, "0 | 90 1");
        d.due("the law", q.count(3), 2);
        Due.tell(q, "pusher 0 9;law 1");
        d.stand("three texts", q, "0 2 | 90 1");
        d.due("the law", q.count(3), 1);
    }

    private static PoplarQueue toldAfterBusy() {
        PoplarQueue q = Due.busy();
        q.erase();
        Due.tell(q, "gap 1");
        return q;
    }

    static void promise05_itIsNight0Then() {
        d.due("the night", toldAfterBusy().count(4), 0);
    }

    static void promise05_allStandWhereTheyWereTold() {
        PoplarQueue q = toldAfterBusy();
        d.stand("a text", q, "0 1 2 90 | 3 4 5 90");
        d.due("trees: none that joined", q.count(0), 6);
        for (int tree = 0; tree < 6; tree++) {
            d.due("it stands", q.tree(tree, 4), 0);
        }
    }

    static void promise05_theyAreAsTheyWereTold() {
        PoplarQueue q = toldAfterBusy();
        d.due("the kind of one that was felled", q.tree(2, 0), 2);
        d.due("the law that was told", q.count(3), 0);
        for (int tree = 0; tree < 6; tree++) {
            d.due("bids", q.tree(tree, 5), 0);
        }
    }

    static void promise05_line0HasTheTurnThen() {
        PoplarQueue q = Due.told("poplar 0 1;poplar 1 1");
        q.night();
        d.due("the turn ahead", q.count(5), 1);
        Due.tell(q, "law 0");
        d.due("the turn", q.count(5), 0);
    }

    static void promise05_nobodyIsCalledThen() {
        d.due("called", toldAfterBusy().count(6), 0);
        d.due("at home", toldAfterBusy().count(7), 0);
    }

    static void promise05_nothingIsSeenThen() {
        PoplarQueue q = toldAfterBusy();
        d.due("seen", q.count(8), 0);
        d.due("laws", q.laws(), 7);
    }

    static void promise05_allBagsAreMissingThen() {
        PoplarQueue q = toldAfterBusy();
        d.due("bags", q.count(9), 0);
        for (int bag = 0; bag < 3; bag++) {
            d.due("drop", q.drop(bag), NULL);
        }
        q.bag(0, 3);
        d.due("a new bag has nothing of the old", q.held(0, 0, 0), PoplarQueue.EMPTY);
    }

    static void promise05_nothingIsKeptThen() {
        d.due("again(0)", toldAfterBusy().again(0), NOT);
        d.due("again(1)", toldAfterBusy().again(1), NOT);
    }

    static void promise05_nothingCanBeUndoneThen() {
        d.due("to undo", toldAfterBusy().count(10), 0);
        d.due("undo", toldAfterBusy().undo(), NOT);
    }

    // ---- 6

    static void promise06_noSuchTreeIsUnknown() {
        for (int tree : new int[] {-1, 7, 12, MOST, LEAST}) {
            d.refusedBusy("tree(" + tree + ", 0)", q -> q.tree(tree, 0), UNKNOWN);
        }
        d.due("the last tree", Due.busy().tree(6, 0), 1);
    }

    static void promise06_theTwelfthTreeIsTree11() {
        PoplarQueue q = Due.told(SIX_AND_SIX + "law 0");
        d.due("tree(11, 3)", q.tree(11, 3), 5);
        d.due("tree(12, 3)", q.tree(12, 3), UNKNOWN);
    }

    static void promise06_anotherWhatIsOutside() {
        for (int what : new int[] {-1, 6, MOST, LEAST}) {
            d.refusedBusy("tree(2, " + what + ")", q -> q.tree(2, what), OUTSIDE);
        }
    }

    static void promise06_unknownComesAheadOfOutside() {
        d.refusedBusy("tree(7, 6)", q -> q.tree(7, 6), UNKNOWN);
    }

    static void promise06_oneThatIsCalledHasNoLineAndNoPlace() {
        PoplarQueue q = Due.busy();
        d.due("line", q.tree(4, 2), NONE);
        d.due("place", q.tree(4, 3), NONE);
        d.due("state", q.tree(4, 4), 1);
        d.due("kind", q.tree(4, 0), 0);
        d.due("root", q.tree(4, 1), 2);
        d.due("bids", q.tree(4, 5), 1);
    }

    static void promise06_oneAtHomeHasNoLineAndNoPlace() {
        PoplarQueue q = Due.busy();
        d.due("line", q.tree(5, 2), NONE);
        d.due("place", q.tree(5, 3), NONE);
        d.due("state", q.tree(5, 4), 2);
    }

    static void promise06_theKindIsTheOneNow() {
        d.due("kind of one that was felled", Due.busy().tree(2, 0), 4);
    }

    static void promise06_placesDriftByNights() {
        PoplarQueue q = Due.told("poplar 1 1;poplar 1 1;poplar 1 1");
        d.due("place", q.tree(2, 3), 2);
        q.night();
        d.due("place a night later", q.tree(2, 3), 1);
        q.night();
        d.due("place two nights later", q.tree(2, 3), 0);
    }

    // ---- 7

    static void promise07_noSuchLineIsUnknown() {
        for (int line : new int[] {-1, 2, MOST, LEAST}) {
            d.refusedBusy("at(" + line + ", 0)", q -> q.at(line, 0), UNKNOWN);
        }
    }

    static void promise07_noSuchPlaceIsUnknown() {
        for (int place : new int[] {-1, 3, 12, MOST, LEAST}) {
            d.refusedBusy("at(0, " + place + ")", q -> q.at(0, place), UNKNOWN);
        }
        d.due("the last place", Due.busy().at(0, 2), 6);
        d.due("behind the last of line 1", Due.busy().at(1, 2), UNKNOWN);
    }

    static void promise07_aPlaceThatHasGoneIsUnknown() {
        PoplarQueue q = Due.told("poplar 0 1;poplar 0 2");
        d.due("at(0, 1)", q.at(0, 1), 1);
        q.night();
        d.due("at(0, 1) a night later", q.at(0, 1), UNKNOWN);
        q.night();
        d.due("at(0, 0) of a line without places", q.at(0, 0), UNKNOWN);
    }

    static void promise07_theTwelfthPlaceIsPlace11() {
        PoplarQueue q = Due.told("gap 0;".repeat(11) + "old 0 1");
        d.due("at(0, 11)", q.at(0, 11), 0);
        d.due("at(0, 12)", q.at(0, 12), UNKNOWN);
    }

    static void promise07_aGapOfNobodyIs90() {
        d.due("at(0, 1)", Due.busy().at(0, 1), 90);
    }

    static void promise07_itsOwnGapIs50MoreThanATree() {
        d.due("at(1, 1)", Due.busy().at(1, 1), 55);
        PoplarQueue q = Due.told(SIX_AND_SIX + "law 0");
        q.home(0);
        q.home(11);
        d.due("the gap of tree 0", q.at(0, 0), 50);
        d.due("the gap of tree 11", q.at(1, 5), 61);
    }

    // ---- 8

    static void promise08_noSuchTreeIsUnknown() {
        for (int tree : new int[] {-1, 7, 12, MOST, LEAST}) {
            d.refusedBusy("as(" + tree + ", 0)", q -> q.as(tree, 0), UNKNOWN);
        }
    }

    static void promise08_anotherKindIsOutside() {
        for (int kind : new int[] {-1, 6, MOST, LEAST}) {
            d.refusedBusy("as(2, " + kind + ")", q -> q.as(2, kind), OUTSIDE);
        }
    }

    static void promise08_unknownComesAheadOfOutside() {
        d.refusedBusy("as(7, 6)", q -> q.as(7, 6), UNKNOWN);
    }

    /** A row of answers for the kinds 0 to 5 of one tree. */
    private static void asEach(int tree, int... want) {
        PoplarQueue q = Due.told("poplar 0 5;pusher 0 5;old 0 5;stump 0 5");
        q.join(1, 4, 5);
        for (int kind = 0; kind < 6; kind++) {
            d.due("as(" + tree + ", " + kind + ")", q.as(tree, kind), want[kind]);
        }
    }

    static void promise08_aPoplarIsATreeAndAPoplar() {
        asEach(0, 1, 1, NOT, NOT, NOT, NOT);
    }

    static void promise08_aPusherIsAPoplar() {
        asEach(1, 1, 1, 1, NOT, NOT, NOT);
    }

    static void promise08_anOldOneIsAPoplarAndNeedsOneMore() {
        asEach(2, 2, 2, NOT, 2, NOT, NOT);
    }

    static void promise08_aStumpCannotBeCalled() {
        asEach(3, 0, NOT, NOT, NOT, 0, NOT);
    }

    static void promise08_aFarmerIsAStumpAndNeeds3() {
        asEach(4, 3, NOT, NOT, NOT, 3, 3);
    }

    static void promise08_itIsByTheKindNow() {
        PoplarQueue q = Due.busy();
        d.due("one that was felled, as a farmer", q.as(2, 5), 3);
        d.due("one that was felled, as an old one", q.as(2, 3), NOT);
    }

    static void promise08_thoseCalledAndAtHomeAreTakenToo() {
        d.due("as of a called one", Due.busy().as(1, 2), 1);
        d.due("as of one at home", Due.busy().as(5, 3), 2);
    }

    static void promise08_bidsThatWereDoNotMatter() {
        PoplarQueue q = Due.told("old 0 1");
        q.night();
        d.due("as of one that was bid", q.as(0, 0), 2);
    }

    static void promise08_whatIsRefusedChangesNothing() {
        d.refusedBusy("as(2, 1)", q -> q.as(2, 1), NOT);
    }
}
