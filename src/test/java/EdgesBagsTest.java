/** The edges of promises 29 to 36, each sentence by itself. */
public final class EdgesBagsTest {
    private static final Due d = new Due("EdgesBagsTest");
    private static final int UNKNOWN = PoplarQueue.UNKNOWN, OUTSIDE = PoplarQueue.OUTSIDE, FULL = PoplarQueue.FULL;
    private static final int NULL = PoplarQueue.NULL, INDEX = PoplarQueue.INDEX, EMPTY = PoplarQueue.EMPTY;
    private static final int CAST = PoplarQueue.CAST, SIZE = PoplarQueue.SIZE;
    private static final int MOST = Integer.MAX_VALUE, LEAST = Integer.MIN_VALUE;
    private static final int[] NO_BAGS = {-1, 3, MOST, LEAST};

    public static void main(String[] args) {
        Promises.run(EdgesBagsTest.class, d, 29, 36);
    }

    /** Bag 0 with a number 10, 11 .. in each of its slots. */
    private static PoplarQueue numbered(int slots) {
        PoplarQueue q = new PoplarQueue();
        q.bag(0, slots);
        for (int i = 0; i < slots; i++) {
            q.hold(0, i, 0, 10 + i);
        }
        return q;
    }

    private static void slots(PoplarQueue q, int bag, int... want) {
        for (int i = 0; i < want.length; i++) {
            d.due("slot " + i + " of bag " + bag, q.held(bag, i, 0), want[i]);
        }
        d.due("behind the last slot of bag " + bag, q.held(bag, want.length, 0), INDEX);
    }

    // ---- 29

    static void promise29_noSuchBagIsUnknown() {
        for (int bag : NO_BAGS) {
            d.refusedBusy("bag(" + bag + ", 3)", q -> q.bag(bag, 3), UNKNOWN);
        }
    }

    static void promise29_moreThan12SlotsAreOutside() {
        for (int n : new int[] {13, MOST}) {
            d.refusedBusy("bag(0, " + n + ")", q -> q.bag(0, n), OUTSIDE);
            d.refusedBusy("bag(2, " + n + ")", q -> q.bag(2, n), OUTSIDE);
        }
    }

    static void promise29_fewerThanNoneAreSize() {
        for (int n : new int[] {-1, LEAST}) {
            d.refusedBusy("bag(0, " + n + ")", q -> q.bag(0, n), SIZE);
            d.refusedBusy("bag(2, " + n + ")", q -> q.bag(2, n), SIZE);
        }
    }

    static void promise29_unknownComesAheadOfOutsideAndSize() {
        d.refusedBusy("bag(3, 13)", q -> q.bag(3, 13), UNKNOWN);
        d.refusedBusy("bag(-1, -1)", q -> q.bag(-1, -1), UNKNOWN);
    }

    static void promise29_aBagOfNoneIsThere() {
        PoplarQueue q = new PoplarQueue();
        d.due("bag(0, 0)", q.bag(0, 0), 0);
        d.due("bags", q.count(9), 1);
        d.due("held", q.held(0, 0, 0), INDEX);
    }

    static void promise29_aBagOf12HasSlots0To11() {
        PoplarQueue q = new PoplarQueue();
        d.due("bag(2, 12)", q.bag(2, 12), 12);
        d.due("slot 0", q.held(2, 0, 0), EMPTY);
        d.due("slot 11", q.held(2, 11, 0), EMPTY);
        d.due("slot 12", q.held(2, 12, 0), INDEX);
    }

    static void promise29_itsSlotsAreEmptyEvenIfItWasThere() {
        PoplarQueue q = numbered(3);
        d.due("bag(0, 5)", q.bag(0, 5), 5);
        slots(q, 0, EMPTY, EMPTY, EMPTY, EMPTY, EMPTY);
        d.due("bags", q.count(9), 1);
    }

    static void promise29_aBagThatWasSmallerMeanwhileIsEmpty() {
        PoplarQueue q = numbered(3);
        q.bag(0, 1);
        q.bag(0, 3);
        slots(q, 0, EMPTY, EMPTY, EMPTY);
    }

    static void promise29_otherBagsStay() {
        PoplarQueue q = numbered(2);
        q.bag(1, 4);
        q.bag(2, 0);
        slots(q, 0, 10, 11);
        slots(q, 1, EMPTY, EMPTY, EMPTY, EMPTY);
        slots(q, 2);
    }

    // ---- 30

    static void promise30_noSuchBagIsUnknown() {
        for (int bag : NO_BAGS) {
            d.refusedBusy("hold(" + bag + ", 0, 0, 5)", q -> q.hold(bag, 0, 0, 5), UNKNOWN);
        }
    }

    static void promise30_noSuchTreeIsUnknown() {
        for (long tree : new long[] {-1, 7, 12, MOST, LEAST, 1L << 32, 1L << 32 | 2, Long.MAX_VALUE, Long.MIN_VALUE}) {
            d.refusedBusy("hold(0, 0, 1, " + tree + ")", q -> q.hold(0, 0, 1, tree), UNKNOWN);
        }
    }

    static void promise30_anotherWhatIsOutside() {
        for (int what : new int[] {-1, 3, MOST, LEAST}) {
            d.refusedBusy("hold(0, 0, " + what + ", 5)", q -> q.hold(0, 0, what, 5), OUTSIDE);
        }
    }

    static void promise30_aMissingBagIsNull() {
        for (int what = 0; what <= 2; what++) {
            int kind = what;
            d.refusedBusy("hold(2, 0, " + what + ", 0)", q -> q.hold(2, 0, kind, 0), NULL);
        }
    }

    static void promise30_noSuchSlotIsIndex() {
        for (int i : new int[] {-1, 3, 12, MOST, LEAST}) {
            for (int what = 0; what <= 2; what++) {
                int kind = what;
                d.refusedBusy("hold(0, " + i + ", " + what + ", 0)", q -> q.hold(0, i, kind, 0), INDEX);
            }
        }
        d.refusedBusy("hold(1, 0, 0, 0) of no slots", q -> q.hold(1, 0, 0, 0), INDEX);
    }

    static void promise30_unknownComesAheadOfOutside() {
        d.refusedBusy("hold(3, 0, 3, 0)", q -> q.hold(3, 0, 3, 0), UNKNOWN);
    }

    static void promise30_noSuchTreeComesAheadOfNullAndIndex() {
        d.refusedBusy("hold(2, 0, 1, 7)", q -> q.hold(2, 0, 1, 7), UNKNOWN);
        d.refusedBusy("hold(0, 3, 1, 7)", q -> q.hold(0, 3, 1, 7), UNKNOWN);
    }

    static void promise30_outsideComesAheadOfNullAndIndex() {
        d.refusedBusy("hold(2, 0, 3, 0)", q -> q.hold(2, 0, 3, 0), OUTSIDE);
        d.refusedBusy("hold(0, 3, 3, 0)", q -> q.hold(0, 3, 3, 0), OUTSIDE);
    }

    static void promise30_nullComesAheadOfIndex() {
        d.refusedBusy("hold(2, -1, 0, 0)", q -> q.hold(2, -1, 0, 0), NULL);
    }

    static void promise30_anyNumberIsTaken() {
        PoplarQueue q = Due.busy();
        for (long v : new long[] {0, -1, 7, 99, Long.MAX_VALUE, Long.MIN_VALUE}) {
            d.due("hold of " + v, q.hold(0, 2, 0, v), 1);
        }
    }

    static void promise30_theFirstAndTheLastTreeAreTaken() {
        PoplarQueue q = Due.busy();
        d.due("hold of tree 0, which is called", q.hold(0, 2, 1, 0), 1);
        d.due("held", q.held(0, 2, 1), 0);
        d.due("hold of tree 5, which is at home", q.hold(0, 2, 1, 5), 1);
        d.due("hold of tree 6", q.hold(0, 2, 1, 6), 1);
        d.due("held", q.held(0, 2, 1), 6);
    }

    static void promise30_nothingIsTakenWhateverVIs() {
        for (long v : new long[] {0, 7, -1, Long.MAX_VALUE, Long.MIN_VALUE}) {
            PoplarQueue q = Due.busy();
            d.due("hold of nothing", q.hold(0, 0, 2, v), 1);
            d.due("held", q.held(0, 0, 0), EMPTY);
            d.due("drop", q.drop(0), 1);
        }
    }

    static void promise30_nothingCanBeHeldWhereNothingIs() {
        PoplarQueue q = Due.busy();
        d.due("hold of nothing", q.hold(0, 2, 2, 0), 1);
        d.due("held", q.held(0, 2, 0), EMPTY);
    }

    static void promise30_theFirstAndTheLastSlotCanHold() {
        PoplarQueue q = new PoplarQueue();
        q.bag(2, 12);
        d.due("hold in slot 0", q.hold(2, 0, 0, 3), 1);
        d.due("hold in slot 11", q.hold(2, 11, 0, 4), 1);
        d.due("slot 0", q.held(2, 0, 0), 3);
        d.due("slot 11", q.held(2, 11, 0), 4);
        d.due("slot 10", q.held(2, 10, 0), EMPTY);
    }

    static void promise30_theNewHolderIsOneDeep() {
        PoplarQueue q = Due.busy();
        d.due("hold where one is 2 deep", q.hold(0, 1, 0, 9), 1);
        d.due("held", q.held(0, 1, 0), 9);
        d.due("wrap", q.wrap(0, 1), 2);
    }

    // ---- 31

    static void promise31_noSuchBagIsUnknown() {
        for (int bag : NO_BAGS) {
            d.refusedBusy("wrap(" + bag + ", 0)", q -> q.wrap(bag, 0), UNKNOWN);
        }
    }

    static void promise31_aMissingBagIsNull() {
        d.refusedBusy("wrap(2, 0)", q -> q.wrap(2, 0), NULL);
        d.refusedBusy("wrap(2, -1)", q -> q.wrap(2, -1), NULL);
    }

    static void promise31_noSuchSlotIsIndex() {
        for (int i : new int[] {-1, 3, 12, MOST, LEAST}) {
            d.refusedBusy("wrap(0, " + i + ")", q -> q.wrap(0, i), INDEX);
        }
        d.refusedBusy("wrap(1, 0) of no slots", q -> q.wrap(1, 0), INDEX);
    }

    static void promise31_aSlotThatHasNothingIsEmpty() {
        d.refusedBusy("wrap(0, 2)", q -> q.wrap(0, 2), EMPTY);
    }

    /** Slot 0 of bag 0 has a holder that is so deep. */
    private static PoplarQueue deep(int depth) {
        PoplarQueue q = numbered(2);
        for (int i = 1; i < depth; i++) {
            q.wrap(0, 0);
        }
        return q;
    }

    static void promise31_oneThatIs4DeepIsFull() {
        d.due("wrap of 1 deep", deep(1).wrap(0, 0), 2);
        d.due("wrap of 2 deep", deep(2).wrap(0, 0), 3);
        d.due("wrap of 3 deep", deep(3).wrap(0, 0), 4);
        d.refused("wrap of 4 deep", () -> deep(4), q -> q.wrap(0, 0), FULL);
        PoplarQueue q = deep(4);
        q.wrap(0, 0);
        d.due("it is 4 deep still", q.open(0, 0), 3);
    }

    static void promise31_treesAreWrappedToo() {
        PoplarQueue q = Due.busy();
        d.due("wrap of a tree's holder's holder", q.wrap(0, 1), 3);
        q.open(0, 1);
        q.open(0, 1);
        d.due("the tree", q.held(0, 1, 1), 2);
    }

    static void promise31_otherSlotsOfTheSameHolderStay() {
        PoplarQueue q = numbered(2);
        q.move(0, 0, 0, 1, 1);
        q.wrap(0, 0);
        d.due("slot 0", q.held(0, 0, 2), 1);
        d.due("slot 1", q.held(0, 1, 0), 10);
    }

    // ---- 32

    static void promise32_noSuchBagIsUnknown() {
        for (int bag : NO_BAGS) {
            d.refusedBusy("open(" + bag + ", 0)", q -> q.open(bag, 0), UNKNOWN);
        }
    }

    static void promise32_aMissingBagIsNull() {
        d.refusedBusy("open(2, 0)", q -> q.open(2, 0), NULL);
        d.refusedBusy("open(2, -1)", q -> q.open(2, -1), NULL);
    }

    static void promise32_noSuchSlotIsIndex() {
        for (int i : new int[] {-1, 3, 12, MOST, LEAST}) {
            d.refusedBusy("open(0, " + i + ")", q -> q.open(0, i), INDEX);
        }
        d.refusedBusy("open(1, 0) of no slots", q -> q.open(1, 0), INDEX);
    }

    static void promise32_aSlotThatHasNothingIsEmpty() {
        d.refusedBusy("open(0, 2)", q -> q.open(0, 2), EMPTY);
    }

    static void promise32_aHolderOfANumberIsCast() {
        d.refusedBusy("open(0, 0)", q -> q.open(0, 0), CAST);
    }

    static void promise32_aHolderOfATreeIsCast() {
        PoplarQueue q = Due.busy();
        d.due("open of 2 deep", q.open(0, 1), 1);
        d.due("open of a tree", q.open(0, 1), CAST);
        d.due("the tree is there", q.held(0, 1, 1), 2);
    }

    static void promise32_itIsOneLessDeep() {
        PoplarQueue q = deep(4);
        for (int depth = 3; depth >= 1; depth--) {
            d.due("open", q.open(0, 0), depth);
        }
        d.due("open of 1 deep", q.open(0, 0), CAST);
        d.due("the number is there", q.held(0, 0, 0), 10);
    }

    static void promise32_otherSlotsOfTheSameHolderStay() {
        PoplarQueue q = deep(2);
        q.move(0, 0, 0, 1, 1);
        d.due("open", q.open(0, 0), 1);
        d.due("slot 0", q.held(0, 0, 0), 10);
        d.due("slot 1", q.held(0, 1, 2), 1);
    }

    static void promise32_whatIsOpenedCanBeWrappedAgain() {
        PoplarQueue q = deep(4);
        q.open(0, 0);
        d.due("wrap", q.wrap(0, 0), 4);
        d.due("wrap", q.wrap(0, 0), FULL);
    }

    // ---- 33

    static void promise33_noSuchBagIsUnknown() {
        for (int bag : NO_BAGS) {
            d.refusedBusy("held(" + bag + ", 0, 0)", q -> q.held(bag, 0, 0), UNKNOWN);
        }
    }

    static void promise33_anotherWhatIsOutside() {
        for (int what : new int[] {-1, 3, MOST, LEAST}) {
            d.refusedBusy("held(0, 0, " + what + ")", q -> q.held(0, 0, what), OUTSIDE);
        }
    }

    static void promise33_unknownComesAheadOfOutsideAndThatOfNull() {
        d.refusedBusy("held(3, 0, 3)", q -> q.held(3, 0, 3), UNKNOWN);
        d.refusedBusy("held(2, 0, 3)", q -> q.held(2, 0, 3), OUTSIDE);
        d.refusedBusy("held(0, 3, 3)", q -> q.held(0, 3, 3), OUTSIDE);
        d.refusedBusy("held(0, 2, 3)", q -> q.held(0, 2, 3), OUTSIDE);
    }

    static void promise33_aMissingBagIsNull() {
        for (int what = 0; what <= 2; what++) {
            int kind = what;
            d.refusedBusy("held(2, 0, " + what + ")", q -> q.held(2, 0, kind), NULL);
            d.refusedBusy("held(2, -1, " + what + ")", q -> q.held(2, -1, kind), NULL);
        }
    }

    static void promise33_noSuchSlotIsIndex() {
        for (int i : new int[] {-1, 3, 12, MOST, LEAST}) {
            for (int what = 0; what <= 2; what++) {
                int kind = what;
                d.refusedBusy("held(0, " + i + ", " + what + ")", q -> q.held(0, i, kind), INDEX);
            }
        }
        d.refusedBusy("held(1, 0, 0) of no slots", q -> q.held(1, 0, 0), INDEX);
    }

    static void promise33_aSlotThatHasNothingIsEmpty() {
        for (int what = 0; what <= 2; what++) {
            int kind = what;
            d.refusedBusy("held(0, 2, " + what + ")", q -> q.held(0, 2, kind), EMPTY);
        }
    }

    static void promise33_aNumberIsNoTreeAndNoHolder() {
        d.due("as a number", Due.busy().held(0, 0, 0), 77);
        d.refusedBusy("as a tree", q -> q.held(0, 0, 1), CAST);
        d.refusedBusy("as a holder", q -> q.held(0, 0, 2), CAST);
    }

    static void promise33_aTreeIsNoNumberAndNoHolder() {
        PoplarQueue q = Due.busy();
        q.open(0, 1);
        d.due("as a number", q.held(0, 1, 0), CAST);
        d.due("as a tree", q.held(0, 1, 1), 2);
        d.due("as a holder", q.held(0, 1, 2), CAST);
    }

    static void promise33_aHolderIsNoNumberAndNoTree() {
        d.refusedBusy("as a number", q -> q.held(0, 1, 0), CAST);
        d.refusedBusy("as a tree", q -> q.held(0, 1, 1), CAST);
        d.due("as a holder", Due.busy().held(0, 1, 2), 1);
    }

    static void promise33_aHolderTellsHowDeepTheInnerOneIs() {
        for (int depth = 2; depth <= 4; depth++) {
            d.due("held of " + depth + " deep", deep(depth).held(0, 0, 2), depth - 1);
        }
    }

    private static void numberIs(long v, int want) {
        PoplarQueue q = new PoplarQueue();
        q.bag(1, 1);
        q.hold(1, 0, 0, v);
        d.due("held of " + v, q.held(1, 0, 0), want);
    }

    static void promise33_aNumberIsItsRestBy1000003() {
        numberIs(0, 0);
        numberIs(1, 1);
        numberIs(1000002, 1000002);
        numberIs(1000003, 0);
        numberIs(1000004, 1);
        numberIs(2000006, 0);
        numberIs(MOST, 2147483647 % 1000003);
        numberIs(1L << 31, 477207);
        numberIs(1L << 32, 954414);
        numberIs(Long.MAX_VALUE, 675344);
    }

    static void promise33_aNumberBelow0IsByHowFarItIsLess1() {
        numberIs(-1, 2000000);
        numberIs(-2, 2000001);
        numberIs(-1000002, 3000001);
        numberIs(-1000003, 3000002);
        numberIs(-1000004, 2000000);
        numberIs(LEAST, 2000000 + 2147483647 % 1000003);
        numberIs(Long.MIN_VALUE + 1, 2675343);
        numberIs(Long.MIN_VALUE, 2675344);
    }

    // ---- 34

    private static PoplarQueue fourAndTwo() {
        PoplarQueue q = numbered(4);
        q.bag(1, 2);
        return q;
    }

    private static void moveIs(int want, int from, int i, int to, int j, int n) {
        d.refused("move(" + from + ", " + i + ", " + to + ", " + j + ", " + n + ")", EdgesBagsTest::fourAndTwo,
            q -> q.move(from, i, to, j, n), want);
    }

    static void promise34_noSuchBagIsUnknown() {
        for (int bag : NO_BAGS) {
            moveIs(UNKNOWN, bag, 0, 1, 0, 1);
            moveIs(UNKNOWN, 0, 0, bag, 0, 1);
        }
    }

    static void promise34_unknownComesAheadOfNull() {
        moveIs(UNKNOWN, 2, 0, 3, 0, 1);
        moveIs(UNKNOWN, 3, 0, 2, 0, 1);
        moveIs(UNKNOWN, 0, 9, -1, 9, 9);
    }

    static void promise34_eitherMissingIsNull() {
        moveIs(NULL, 2, 0, 0, 0, 1);
        moveIs(NULL, 0, 0, 2, 0, 1);
        moveIs(NULL, 2, 0, 2, 0, 0);
    }

    static void promise34_nullComesAheadOfIndex() {
        moveIs(NULL, 0, 9, 2, 0, 1);
        moveIs(NULL, 2, 0, 0, 9, 1);
        moveIs(NULL, 0, 0, 2, 0, -1);
    }

    static void promise34_below0IsIndex() {
        for (int below : new int[] {-1, LEAST}) {
            moveIs(INDEX, 0, below, 1, 0, 1);
            moveIs(INDEX, 0, 0, 1, below, 1);
            moveIs(INDEX, 0, 0, 1, 0, below);
            moveIs(INDEX, 0, below, 1, 0, 0);
            moveIs(INDEX, 0, 0, 1, below, 0);
        }
        moveIs(INDEX, 0, 2, 1, 1, -1);
    }

    static void promise34_beyondTheEndOfTheFirstIsIndex() {
        moveIs(INDEX, 0, 4, 1, 0, 1);
        moveIs(INDEX, 0, 3, 1, 0, 2);
        moveIs(INDEX, 0, 5, 1, 0, 0);
        moveIs(INDEX, 1, 1, 0, 0, 2);
        moveIs(INDEX, 1, 0, 0, 0, 3);
    }

    static void promise34_beyondTheEndOfTheOtherIsIndex() {
        moveIs(INDEX, 0, 0, 1, 2, 1);
        moveIs(INDEX, 0, 0, 1, 1, 2);
        moveIs(INDEX, 0, 0, 1, 0, 3);
        moveIs(INDEX, 0, 0, 1, 3, 0);
        moveIs(INDEX, 0, 0, 0, 1, 4);
    }

    static void promise34_noSumWrapsAround() {
        moveIs(INDEX, 0, MOST, 1, 0, 1);
        moveIs(INDEX, 0, 1, 1, 0, MOST);
        moveIs(INDEX, 0, 0, 1, MOST, 1);
        moveIs(INDEX, 0, 0, 1, 1, MOST);
        moveIs(INDEX, 0, MOST, 1, MOST, MOST);
        moveIs(INDEX, 0, MOST, 1, 0, 0);
    }

    static void promise34_noneCanBeMovedAtEitherEnd() {
        d.due("move of none at the start", fourAndTwo().move(0, 0, 1, 0, 0), 0);
        d.due("move of none at the end", fourAndTwo().move(0, 4, 1, 2, 0), 0);
        d.due("move of none in a bag of none", Due.busy().move(1, 0, 1, 0, 0), 0);
        PoplarQueue q = fourAndTwo();
        q.move(0, 0, 1, 0, 0);
        slots(q, 1, EMPTY, EMPTY);
    }

    static void promise34_allCanBeMoved() {
        PoplarQueue q = numbered(12);
        q.bag(2, 12);
        d.due("move of 12", q.move(0, 0, 2, 0, 12), 12);
        slots(q, 2, 10, 11, 12, 13, 14, 15, 16, 17, 18, 19, 20, 21);
        slots(q, 0, 10, 11, 12, 13, 14, 15, 16, 17, 18, 19, 20, 21);
    }

    static void promise34_theLastSlotCanBeMovedToTheLast() {
        PoplarQueue q = fourAndTwo();
        d.due("move", q.move(0, 3, 1, 1, 1), 1);
        slots(q, 1, EMPTY, 13);
    }

    static void promise34_slotsThatHaveNothingComeToo() {
        PoplarQueue q = fourAndTwo();
        d.due("move", q.move(1, 0, 0, 1, 2), 2);
        slots(q, 0, 10, EMPTY, EMPTY, 13);
    }

    static void promise34_toItselfAllIsTakenAhead() {
        PoplarQueue up = numbered(5);
        d.due("move to later slots", up.move(0, 0, 0, 1, 4), 4);
        slots(up, 0, 10, 10, 11, 12, 13);
        PoplarQueue down = numbered(5);
        d.due("move to earlier slots", down.move(0, 1, 0, 0, 4), 4);
        slots(down, 0, 11, 12, 13, 14, 14);
        PoplarQueue same = numbered(3);
        d.due("move to the same slots", same.move(0, 0, 0, 0, 3), 3);
        slots(same, 0, 10, 11, 12);
    }

    static void promise34_theSameHoldersAreInBoth() {
        PoplarQueue q = fourAndTwo();
        q.wrap(0, 1);
        q.wrap(0, 1);
        q.move(0, 1, 1, 0, 1);
        d.due("how deep it is there", q.held(1, 0, 2), 2);
        q.drop(0);
        d.due("it stays when the other bag is dropped", q.open(1, 0), 2);
    }

    // ---- 35

    static void promise35_noSuchBagIsUnknown() {
        for (int bag : NO_BAGS) {
            d.refusedBusy("drop(" + bag + ")", q -> q.drop(bag), UNKNOWN);
        }
    }

    static void promise35_aMissingBagIsNull() {
        d.refusedBusy("drop(2)", q -> q.drop(2), NULL);
    }

    static void promise35_aBagOfNoneIs0() {
        d.due("drop(1)", Due.busy().drop(1), 0);
        PoplarQueue q = new PoplarQueue();
        q.bag(0, 12);
        d.due("drop of empty slots", q.drop(0), 0);
    }

    static void promise35_theSlotsThatHadSomethingAreTold() {
        d.due("drop(0)", Due.busy().drop(0), 2);
        d.due("drop of 12", numbered(12).drop(0), 12);
    }

    static void promise35_itIsMissingThen() {
        PoplarQueue q = Due.busy();
        q.drop(0);
        d.due("bags", q.count(9), 1);
        d.due("drop again", q.drop(0), NULL);
        d.due("held", q.held(0, 0, 0), NULL);
        d.due("hold", q.hold(0, 0, 0, 5), NULL);
        d.due("move from it", q.move(0, 0, 1, 0, 0), NULL);
    }

    static void promise35_aNewOneHasNothingOfIt() {
        PoplarQueue q = numbered(3);
        q.drop(0);
        q.bag(0, 3);
        slots(q, 0, EMPTY, EMPTY, EMPTY);
        d.due("drop", q.drop(0), 0);
    }

    static void promise35_otherBagsStay() {
        PoplarQueue q = fourAndTwo();
        q.drop(1);
        slots(q, 0, 10, 11, 12, 13);
    }

    // ---- 36

    static void promise36_anotherWhatIsOutside() {
        for (int what : new int[] {-1, 12, MOST, LEAST}) {
            d.refusedBusy("count(" + what + ")", q -> q.count(what), OUTSIDE);
        }
    }

    static void promise36_eachIsTold() {
        d.same("counts", Look.atCounts(Due.busy()), "7 3 2 1 3 0 19 32 2 2 7 9");
    }

    static void promise36_theLeastAreAll0() {
        d.same("counts of a new object", Look.atCounts(new PoplarQueue()), "0 0 0 0 0 0 0 0 0 0 0 0");
    }

    static void promise36_theMostAreTold() {
        PoplarQueue q = new PoplarQueue();
        for (int i = 0; i < 12; i++) {
            q.join(1, 0, 5);
        }
        d.due("trees", q.count(0), 12);
        d.due("places of line 1", q.count(2), 12);
        d.due("places of line 0", q.count(1), 0);
        for (int tree = 0; tree < 12; tree++) {
            q.home(tree);
        }
        d.due("at home", q.count(7), 4095);
        d.due("to undo", q.count(10), 8);
        for (int tree = 0; tree < 12; tree++) {
            q.back(tree);
            q.night();
        }
        d.due("called", q.count(6), 4095);
        d.due("at home", q.count(7), 0);
        d.due("the night", q.count(4), 12);
        for (int bag = 0; bag < 3; bag++) {
            q.bag(bag, 0);
        }
        d.due("bags", q.count(9), 3);
        for (int i = 0; i < 6; i++) {
            q.seen(1, 0);
        }
        d.due("seen", q.count(8), 6);
        Due.write(q, " ".repeat(200));
        d.due("letters", q.count(11), 200);
    }

    static void promise36_gapsArePlaces() {
        PoplarQueue q = Due.told("gap 0;".repeat(11) + "gap 0");
        d.due("places of line 0", q.count(1), 12);
        d.due("trees", q.count(0), 0);
    }

    static void promise36_theLawAndTheTurnAreTheOnesByNow() {
        PoplarQueue q = Due.told("stump 0 1;stump 1 1;law 2");
        d.due("the law", q.count(3), 2);
        q.law(0);
        d.due("the law", q.count(3), 0);
        q.night();
        d.due("the turn", q.count(5), 1);
        q.night();
        d.due("the turn", q.count(5), 0);
    }
}
