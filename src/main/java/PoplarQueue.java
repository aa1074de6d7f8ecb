/**
 * Poplars that queue in two lines and are called at the door, one a night at most.
 * What each call answers is told in the document, promise by promise; README.md says how to use it.
 */
public final class PoplarQueue {
    public static final int NONE = -1, UNKNOWN = -2, OUTSIDE = -3, NOT = -4, FULL = -5, NULL = -11, INDEX = -12, EMPTY = -13, CAST = -14, SIZE = -15;

    private static final int MOST_TREES = 12;
    private static final int LINES = 2;
    private static final int MOST_PLACES = 12;
    private static final int MOST_ROOT = 99;
    private static final int LAST_KIND = 4;
    private static final int LAST_CLASS = 5;
    private static final int LAST_LAW = 2;
    private static final int LAST_NIGHT = 999;
    private static final int FORETOLD_NIGHTS = 60;
    private static final int SEEN_NIGHTS = 20;
    private static final int KEEPS = 2;
    private static final int BAGS = 3;
    private static final int MOST_SLOTS = 12;
    private static final int LAST_LETTER = 255;
    private static final int DOOR_NIGHTS = 9;
    private static final int TENTHS = 10;

    private static final int NOBODY = 99;

    private final Plain now = new Plain();
    /** The one plain on which all that is foretold happens, so that no call makes another. */
    private final Plain trial = new Plain();
    private final Reader reader = new Reader();
    private final History history = new History();
    private final Plain[] kept = {new Plain(), new Plain()};
    private final boolean[] isKept = new boolean[KEEPS];
    private final Sights sights = new Sights();
    private final Bag[] bags = {new Bag(), new Bag(), new Bag()};

    public PoplarQueue() {
    }

    // ---- what is told

    public int write(int letter) {
        if (letter < 0 || letter > LAST_LETTER) {
            return OUTSIDE;
        }
        return reader.text.append(letter) ? reader.text.length : FULL;
    }

    public int erase() {
        int had = reader.text.length;
        reader.text.clear();
        return had;
    }

    public int fault() {
        return reader.readToFault();
    }

    public int plain() {
        if (reader.readToFault() != NONE) {
            return NOT;
        }
        reader.takeDraft();
        now.copyFrom(reader.told);
        sights.clear();
        history.clear();
        for (int k = 0; k < KEEPS; k++) {
            isKept[k] = false;
        }
        for (int bag = 0; bag < BAGS; bag++) {
            bags[bag].lose();
        }
        return reader.clauses;
    }

    public int tree(int tree, int what) {
        if (!now.isTree(tree)) {
            return UNKNOWN;
        }
        switch (what) {
            case 0:
                return now.kind[tree];
            case 1:
                return now.root[tree];
            case 2:
                return now.stands(tree) ? now.line[tree] : NONE;
            case 3:
                return now.placeOf(tree);
            case 4:
                return now.state[tree];
            case 5:
                return now.bids[tree];
            default:
                return OUTSIDE;
        }
    }

    public int at(int line, int place) {
        if (!isLine(line) || !now.lineOf(line).hasPlace(place)) {
            return UNKNOWN;
        }
        return now.lineOf(line).cells[place];
    }

    public int as(int tree, int kind) {
        if (!now.isTree(tree)) {
            return UNKNOWN;
        }
        if (kind < 0 || kind > LAST_CLASS) {
            return OUTSIDE;
        }
        int own = now.kind[tree];
        return Kinds.isUnder(own, kind) ? Kinds.bidsNeeded(own) : NOT;
    }

    // ---- what is done

    public int night() {
        if (now.hasNoPlaces()) {
            return NOT;
        }
        if (now.nights >= LAST_NIGHT) {
            return FULL;
        }
        history.remember(now);
        return now.passNight();
    }

    public int join(int line, int kind, int root) {
        if (!isLine(line)) {
            return UNKNOWN;
        }
        if (!isKindAndRoot(kind, root)) {
            return OUTSIDE;
        }
        if (!now.hasRoomForTree(line)) {
            return FULL;
        }
        history.remember(now);
        return now.plant(line, kind, root);
    }

    public int home(int tree) {
        if (!now.isTree(tree)) {
            return UNKNOWN;
        }
        if (!now.stands(tree)) {
            return NOT;
        }
        history.remember(now);
        return now.goHome(tree);
    }

    public int back(int tree) {
        if (!now.isTree(tree)) {
            return UNKNOWN;
        }
        if (now.state[tree] != Plain.AT_HOME) {
            return NOT;
        }
        if (!now.canComeBack(tree)) {
            return FULL;
        }
        history.remember(now);
        return now.comeBack(tree);
    }

    public int fell(int tree) {
        if (!now.isTree(tree)) {
            return UNKNOWN;
        }
        int was = now.kind[tree];
        if (!now.stands(tree) || was == Kinds.FARMER) {
            return NOT;
        }
        history.remember(now);
        now.kind[tree] = Kinds.FARMER;
        now.bids[tree] = 0;
        return was;
    }

    public int law(int law) {
        if (law < 0 || law > LAST_LAW) {
            return OUTSIDE;
        }
        int was = now.ruling;
        if (law == was) {
            return NOT;
        }
        history.remember(now);
        now.ruling = law;
        return was;
    }

    public int undo() {
        return history.takeBack(now) ? history.length : NOT;
    }

    public int keep(int k) {
        if (!isKeep(k)) {
            return UNKNOWN;
        }
        kept[k].copyFrom(now);
        isKept[k] = true;
        return now.nights;
    }

    public int again(int k) {
        if (!isKeep(k)) {
            return UNKNOWN;
        }
        if (!isKept[k]) {
            return NOT;
        }
        now.copyFrom(kept[k]);
        history.clear();
        return now.nights;
    }

    // ---- foretold

    public int when(int tree) {
        if (!now.isTree(tree)) {
            return UNKNOWN;
        }
        if (!now.stands(tree)) {
            return NOT;
        }
        trial.copyFrom(now);
        return nightsTillCalled(tree, FORETOLD_NIGHTS);
    }

    public int where(int tree, int n) {
        if (!now.isTree(tree)) {
            return UNKNOWN;
        }
        if (n < 0 || n > FORETOLD_NIGHTS) {
            return OUTSIDE;
        }
        trial.copyFrom(now);
        for (int night = 0; night < n; night++) {
            trial.passNight();
        }
        return trial.stands(tree) ? 100 * trial.line[tree] + trial.placeOf(tree) : NONE;
    }

    public int next(int k) {
        if (k < 0 || k >= MOST_TREES) {
            return OUTSIDE;
        }
        trial.copyFrom(now);
        int ahead = k;
        for (int night = 0; night < FORETOLD_NIGHTS; night++) {
            int called = trial.passNight();
            if (called != NOBODY && ahead == 0) {
                return called;
            }
            if (called != NOBODY) {
                ahead--;
            }
        }
        return NONE;
    }

    public int best(int kind, int root) {
        if (!isKindAndRoot(kind, root)) {
            return OUTSIDE;
        }
        if (now.trees >= MOST_TREES) {
            return FULL;
        }
        int best = NONE;
        int soonest = FORETOLD_NIGHTS + 1;
        for (int line = 0; line < LINES; line++) {
            int nights = nightsIfJoined(line, kind, root);
            if (nights != NONE && nights < soonest) {
                best = line;
                soonest = nights;
            }
        }
        return best;
    }

    public int send(int tree, int n) {
        if (!now.isTree(tree)) {
            return UNKNOWN;
        }
        if (n < 1 || n > FORETOLD_NIGHTS) {
            return OUTSIDE;
        }
        if (!now.stands(tree)) {
            return NOT;
        }
        return fewestToSend(tree, n);
    }

    public int waits(int law) {
        if (law < 0 || law > LAST_LAW) {
            return OUTSIDE;
        }
        trial.copyFrom(now);
        trial.ruling = law;
        int together = 0;
        for (int night = 1; night <= FORETOLD_NIGHTS; night++) {
            if (trial.passNight() != NOBODY) {
                together += night;
            }
        }
        return together + FORETOLD_NIGHTS * Integer.bitCount(trial.setOf(Plain.STANDING));
    }

    // ---- what was seen

    public int seen(int n, int k) {
        if (n < 1 || n > SEEN_NIGHTS || k < 0 || k > SEEN_NIGHTS) {
            return OUTSIDE;
        }
        return sights.add(n, k) ? sights.length : FULL;
    }

    public int forget() {
        int had = sights.length;
        sights.clear();
        return had;
    }

    public int laws() {
        int set = 0;
        for (int law = 0; law <= LAST_LAW; law++) {
            trial.copyFrom(now);
            trial.ruling = law;
            if (trialGoesAsSeen()) {
                set |= 1 << law;
            }
        }
        return set;
    }

    public int kinds(int tree) {
        if (!now.isTree(tree)) {
            return UNKNOWN;
        }
        if (!now.stands(tree)) {
            return NOT;
        }
        int set = 0;
        for (int kind = 0; kind <= LAST_KIND; kind++) {
            trial.copyFrom(now);
            trial.kind[tree] = kind;
            if (trialGoesAsSeen()) {
                set |= 1 << kind;
            }
        }
        return set;
    }

    public int door(int n, int q, int m, int part) {
        if (n < 0 || n > DOOR_NIGHTS || q < 0 || q > TENTHS || m < 0 || m > DOOR_NIGHTS) {
            return OUTSIDE;
        }
        if (part < 0 || part > 1) {
            return OUTSIDE;
        }
        long above = Odds.waysOfAtLeast(m, n, q, TENTHS - q);
        long below = Odds.power(TENTHS, n);
        long shared = Odds.commonDivisor(above, below);
        if (shared < 1) {
            return NONE;
        }
        return (int) ((part == 0 ? above : below) / shared);
    }

    // ---- bags

    public int bag(int bag, int n) {
        if (!isBag(bag)) {
            return UNKNOWN;
        }
        if (n > MOST_SLOTS) {
            return OUTSIDE;
        }
        if (n < 0) {
            return SIZE;
        }
        bags[bag].renew(n);
        return n;
    }

    public int hold(int bag, int i, int what, long v) {
        if (!isBag(bag) || what == Holder.TREE && (v < 0 || v >= now.trees)) {
            return UNKNOWN;
        }
        if (what < 0 || what > 2) {
            return OUTSIDE;
        }
        int finding = bags[bag].lookFor(i);
        if (finding < 0) {
            return finding;
        }
        // As an argument 2 means nothing at all; only inside a holder does it stand for a holder.
        bags[bag].slots[i] = what == 2 ? null : new Holder(what, v, null);
        return 1;
    }

    public int wrap(int bag, int i) {
        if (!isBag(bag)) {
            return UNKNOWN;
        }
        Holder held = bags[bag].holderAt(i);
        if (held == null) {
            return bags[bag].whyNoHolder(i);
        }
        if (held.depth >= Holder.DEEPEST) {
            return FULL;
        }
        Holder outer = new Holder(Holder.HOLDER, 0, held);
        bags[bag].slots[i] = outer;
        return outer.depth;
    }

    public int open(int bag, int i) {
        if (!isBag(bag)) {
            return UNKNOWN;
        }
        Holder outer = bags[bag].holderAt(i);
        if (outer == null) {
            return bags[bag].whyNoHolder(i);
        }
        Holder inner = outer.inner;
        if (inner == null) {
            return CAST;
        }
        bags[bag].slots[i] = inner;
        return inner.depth;
    }

    public int held(int bag, int i, int what) {
        if (!isBag(bag)) {
            return UNKNOWN;
        }
        if (what < 0 || what > 2) {
            return OUTSIDE;
        }
        Holder holder = bags[bag].holderAt(i);
        return holder == null ? bags[bag].whyNoHolder(i) : holder.takenAs(what);
    }

    public int move(int from, int i, int to, int j, int n) {
        if (!isBag(from) || !isBag(to)) {
            return UNKNOWN;
        }
        if (bags[from].isMissing() || bags[to].isMissing()) {
            return NULL;
        }
        if (!bags[from].hasRow(i, n) || !bags[to].hasRow(j, n)) {
            return INDEX;
        }
        bags[to].takeRow(j, bags[from], i, n);
        return n;
    }

    public int drop(int bag) {
        if (!isBag(bag)) {
            return UNKNOWN;
        }
        if (bags[bag].isMissing()) {
            return NULL;
        }
        int full = bags[bag].fullSlots();
        bags[bag].lose();
        return full;
    }

    public int count(int what) {
        switch (what) {
            case 0:
                return now.trees;
            case 1:
                return now.lineOf(0).length;
            case 2:
                return now.lineOf(1).length;
            case 3:
                return now.ruling;
            case 4:
                return now.nights;
            case 5:
                return now.turn;
            case 6:
                return now.setOf(Plain.CALLED);
            case 7:
                return now.setOf(Plain.AT_HOME);
            case 8:
                return sights.length;
            case 9:
                return bagsThere();
            case 10:
                return history.length;
            case 11:
                return reader.text.length;
            default:
                return OUTSIDE;
        }
    }

    // ---- what the calls share

    private static boolean isLine(int line) {
        return line >= 0 && line < LINES;
    }

    private static boolean isKeep(int k) {
        return k >= 0 && k < KEEPS;
    }

    private static boolean isBag(int bag) {
        return bag >= 0 && bag < BAGS;
    }

    private static boolean isKindAndRoot(int kind, int root) {
        return kind >= 0 && kind <= LAST_KIND && root >= 0 && root <= MOST_ROOT;
    }

    /** By how many nights of the trial plain, most of them at the most, a tree is called; NONE. */
    private int nightsTillCalled(int tree, int most) {
        for (int night = 1; night <= most; night++) {
            if (trial.passNight() == tree) {
                return night;
            }
        }
        return NONE;
    }

    private int nightsIfJoined(int line, int kind, int root) {
        trial.copyFrom(now);
        if (!trial.hasRoomForTree(line)) {
            return NONE;
        }
        return nightsTillCalled(trial.plant(line, kind, root), FORETOLD_NIGHTS);
    }

    /** Tries sets by their size and then by their number, so the first that serves is the one asked for. */
    private int fewestToSend(int tree, int n) {
        if (isCalledWithout(0, tree, n)) {
            return 0;
        }
        for (int one = 0; one < now.trees; one++) {
            if (isCalledWithout(1 << one, tree, n)) {
                return 1 << one;
            }
        }
        for (int high = 1; high < now.trees; high++) {
            for (int low = 0; low < high; low++) {
                int pair = 1 << high | 1 << low;
                if (isCalledWithout(pair, tree, n)) {
                    return pair;
                }
            }
        }
        return NONE;
    }

    private boolean isCalledWithout(int set, int tree, int n) {
        int others = now.setOf(Plain.STANDING) & ~(1 << tree);
        if ((set & ~others) != 0) {
            return false;
        }
        trial.copyFrom(now);
        for (int other = 0; other < now.trees; other++) {
            if ((set >> other & 1) == 1) {
                trial.goHome(other);
            }
        }
        return nightsTillCalled(tree, n) != NONE;
    }

    private boolean trialGoesAsSeen() {
        int called = 0;
        for (int night = 1; night <= SEEN_NIGHTS; night++) {
            if (trial.passNight() != NOBODY) {
                called++;
            }
            if (!sights.allow(night, called)) {
                return false;
            }
        }
        return true;
    }

    private int bagsThere() {
        int there = 0;
        for (int bag = 0; bag < BAGS; bag++) {
            if (!bags[bag].isMissing()) {
                there++;
            }
        }
        return there;
    }

    /** What trees do by their kind. */
    private static final class Kinds {
        static final int POPLAR = 0, PUSHER = 1, OLD = 2, STUMP = 3, FARMER = 4;

        private static final int CLASS_TREE = 0, CLASS_POPLAR = 1, CLASS_STUMP = 4;

        private Kinds() {
        }

        /** 0: one of this kind cannot be called. */
        static int bidsNeeded(int kind) {
            switch (kind) {
                case POPLAR:
                case PUSHER:
                    return 1;
                case OLD:
                    return 2;
                case FARMER:
                    return 3;
                default:
                    return 0;
            }
        }

        static boolean pushes(int kind) {
            return kind == PUSHER;
        }

        static boolean canBePushed(int kind) {
            return kind == POPLAR || kind == PUSHER || kind == OLD;
        }

        /** Classes are numbered one above the kinds, since TREE itself is one that no tree has as its kind. */
        static boolean isUnder(int kind, int family) {
            switch (family) {
                case CLASS_TREE:
                    return true;
                case CLASS_POPLAR:
                    return kind == POPLAR || kind == PUSHER || kind == OLD;
                case CLASS_STUMP:
                    return kind == STUMP || kind == FARMER;
                default:
                    return family == kind + 1;
            }
        }
    }

    /** A row of places, each told by a cell: a tree's number, or a gap. */
    private static final class Line {
        static final int FREE_GAP = 90;
        private static final int OWN_GAP = 50;

        final int[] cells = new int[MOST_PLACES];
        int length = 0;

        static int gapOf(int tree) {
            return OWN_GAP + tree;
        }

        static boolean isGap(int cell) {
            return cell >= OWN_GAP;
        }

        boolean hasPlace(int place) {
            return place >= 0 && place < length;
        }

        boolean isFull() {
            return length >= MOST_PLACES;
        }

        void clear() {
            length = 0;
        }

        void copyFrom(Line other) {
            System.arraycopy(other.cells, 0, cells, 0, MOST_PLACES);
            length = other.length;
        }

        void append(int cell) {
            if (!isFull()) {
                cells[length] = cell;
                length++;
            }
        }

        void put(int place, int cell) {
            if (hasPlace(place)) {
                cells[place] = cell;
            }
        }

        void remove(int place) {
            if (!hasPlace(place)) {
                return;
            }
            for (int behind = place + 1; behind < length; behind++) {
                cells[behind - 1] = cells[behind];
            }
            length--;
        }

        int placeOf(int cell) {
            for (int place = 0; place < length; place++) {
                if (cells[place] == cell) {
                    return place;
                }
            }
            return NONE;
        }
    }

    /** The trees, the two lines, and how they go: all that a night can change. */
    private static final class Plain {
        static final int STANDING = 0, CALLED = 1, AT_HOME = 2;

        private static final int TURNS = 0, LONGER = 1;

        final int[] kind = new int[MOST_TREES];
        final int[] root = new int[MOST_TREES];
        final int[] bids = new int[MOST_TREES];
        final int[] state = new int[MOST_TREES];
        /** The line in which a tree stands, or out of which it went. */
        final int[] line = new int[MOST_TREES];
        int trees = 0;
        int ruling = TURNS;
        int turn = 0;
        int nights = 0;
        private final Line first = new Line();
        private final Line second = new Line();

        void clear() {
            first.clear();
            second.clear();
            trees = 0;
            ruling = TURNS;
            turn = 0;
            nights = 0;
        }

        void copyFrom(Plain other) {
            System.arraycopy(other.kind, 0, kind, 0, MOST_TREES);
            System.arraycopy(other.root, 0, root, 0, MOST_TREES);
            System.arraycopy(other.bids, 0, bids, 0, MOST_TREES);
            System.arraycopy(other.state, 0, state, 0, MOST_TREES);
            System.arraycopy(other.line, 0, line, 0, MOST_TREES);
            trees = other.trees;
            ruling = other.ruling;
            turn = other.turn;
            nights = other.nights;
            first.copyFrom(other.first);
            second.copyFrom(other.second);
        }

        boolean isTree(int tree) {
            return tree >= 0 && tree < trees;
        }

        boolean stands(int tree) {
            return isTree(tree) && state[tree] == STANDING;
        }

        Line lineOf(int number) {
            return number == 0 ? first : second;
        }

        boolean hasNoPlaces() {
            return first.length == 0 && second.length == 0;
        }

        int placeOf(int tree) {
            return stands(tree) ? lineOf(line[tree]).placeOf(tree) : NONE;
        }

        int setOf(int wanted) {
            int set = 0;
            for (int tree = 0; tree < trees; tree++) {
                if (state[tree] == wanted) {
                    set |= 1 << tree;
                }
            }
            return set;
        }

        boolean hasRoomForTree(int number) {
            return trees < MOST_TREES && !lineOf(number).isFull();
        }

        /** The number of the new tree, or NONE where there is no room for it. */
        int plant(int number, int newKind, int newRoot) {
            if (!hasRoomForTree(number)) {
                return NONE;
            }
            int tree = trees;
            kind[tree] = newKind;
            root[tree] = newRoot;
            bids[tree] = 0;
            state[tree] = STANDING;
            line[tree] = number;
            lineOf(number).append(tree);
            trees++;
            return tree;
        }

        int goHome(int tree) {
            int place = placeOf(tree);
            if (place == NONE) {
                return NONE;
            }
            lineOf(line[tree]).put(place, Line.gapOf(tree));
            state[tree] = AT_HOME;
            return place;
        }

        boolean canComeBack(int tree) {
            return isTree(tree) && (gapPlace(tree) != NONE || !lineOf(line[tree]).isFull());
        }

        int comeBack(int tree) {
            if (!canComeBack(tree)) {
                return NONE;
            }
            int place = gapPlace(tree);
            if (place != NONE) {
                lineOf(line[tree]).put(place, tree);
            } else {
                lineOf(line[tree]).append(tree);
                bids[tree] = 0;
            }
            state[tree] = STANDING;
            return placeOf(tree);
        }

        private int gapPlace(int tree) {
            return lineOf(line[tree]).placeOf(Line.gapOf(tree));
        }

        /** Who is called, or NOBODY. */
        int passNight() {
            pushIn(first);
            pushIn(second);
            int called = NOBODY;
            int mover = lineWithItsWay();
            if (mover != NONE) {
                called = moveUp(lineOf(mover));
            }
            if (mover != NONE && ruling == TURNS) {
                turn = 1 - mover;
            }
            nights++;
            return called;
        }

        private void pushIn(Line row) {
            for (int place = 1; place < row.length; place++) {
                int behind = row.cells[place];
                int ahead = row.cells[place - 1];
                if (wouldPush(behind, ahead)) {
                    row.put(place - 1, behind);
                    row.put(place, ahead);
                }
            }
        }

        private boolean wouldPush(int behind, int ahead) {
            return isTree(behind) && Kinds.pushes(kind[behind])
                && isTree(ahead) && Kinds.canBePushed(kind[ahead])
                && root[ahead] < root[behind];
        }

        private int lineWithItsWay() {
            if (hasNoPlaces()) {
                return NONE;
            }
            if (ruling == TURNS) {
                return lineOf(turn).length > 0 ? turn : 1 - turn;
            }
            if (ruling == LONGER) {
                return second.length > first.length ? 1 : 0;
            }
            // An empty line counts as a gap does, so the words give it its way over a gap of line 1.
            return firstRoot(second) > firstRoot(first) ? 1 : 0;
        }

        private int firstRoot(Line row) {
            if (row.length == 0) {
                return -1;
            }
            int cell = row.cells[0];
            return isTree(cell) ? root[cell] : -1;
        }

        private int moveUp(Line row) {
            if (row.length > 0 && Line.isGap(row.cells[0])) {
                row.remove(0);
                return NOBODY;
            }
            int place = placeToBid(row);
            if (place == NONE) {
                return NOBODY;
            }
            int tree = row.cells[place];
            bids[tree]++;
            if (bids[tree] < Kinds.bidsNeeded(kind[tree])) {
                return NOBODY;
            }
            row.remove(place);
            state[tree] = CALLED;
            return tree;
        }

        private int placeToBid(Line row) {
            for (int place = 0; place < row.length; place++) {
                int cell = row.cells[place];
                if (!isTree(cell)) {
                    return NONE;
                }
                if (Kinds.bidsNeeded(kind[cell]) > 0) {
                    return place;
                }
            }
            return NONE;
        }
    }

    /** The plains ahead of the latest deeds, in a ring: the eldest makes room. */
    private static final class History {
        private static final int MOST = 8;

        private final Plain[] ring = {new Plain(), new Plain(), new Plain(), new Plain(),
            new Plain(), new Plain(), new Plain(), new Plain()};
        private int next = 0;
        int length = 0;

        void clear() {
            length = 0;
        }

        void remember(Plain plain) {
            ring[next].copyFrom(plain);
            next = next + 1 < MOST ? next + 1 : 0;
            if (length < MOST) {
                length++;
            }
        }

        boolean takeBack(Plain plain) {
            if (length == 0) {
                return false;
            }
            next = next > 0 ? next - 1 : MOST - 1;
            length--;
            plain.copyFrom(ring[next]);
            return true;
        }
    }

    private static final class Text {
        private static final int MOST_LETTERS = 200;

        private final int[] letters = new int[MOST_LETTERS];
        int length = 0;

        void clear() {
            length = 0;
        }

        boolean append(int letter) {
            if (length >= MOST_LETTERS) {
                return false;
            }
            letters[length] = letter;
            length++;
            return true;
        }

        int letterAt(int place) {
            return place >= 0 && place < length ? letters[place] : NONE;
        }
    }

    /** Reads the text token by token and does its clauses on a draft of what was told, up to the first fault. */
    private static final class Reader {
        private static final int MOST_CLAUSES = 20;
        private static final int MOST_DIGITS = 2;
        private static final int END = 0, WORD = 1, NUMBER = 2, SIGN = 3;

        final Text text = new Text();
        /** What texts have told, apart from what was done since: each new text goes on from it. */
        final Plain told = new Plain();
        private final Plain draft = new Plain();
        private int start = 0;
        private int end = 0;
        private int sort = END;
        /** What the token says, if it is a number of few enough digits; else NONE. */
        private int number = NONE;
        int clauses = 0;

        /** Where the token that cannot stand begins; NONE, and the clauses are counted and done on the draft. */
        int readToFault() {
            draft.copyFrom(told);
            end = 0;
            clauses = 0;
            for (int clause = 0; clause < MOST_CLAUSES; clause++) {
                step();
                if (!readClause()) {
                    return start;
                }
                clauses++;
                if (sort == END) {
                    return NONE;
                }
                if (sort != SIGN || text.letterAt(start) != ';') {
                    return start;
                }
            }
            // No clause more can come, so the sign that would lead to it cannot stand.
            return start;
        }

        /** Only behind a text that was read without a fault does the draft stand for what is told. */
        void takeDraft() {
            told.copyFrom(draft);
            text.clear();
        }

        /** If it answers false, the token at which it stands is the fault; so do all that it asks. */
        private boolean readClause() {
            if (isWord("plain")) {
                draft.clear();
                step();
                return true;
            }
            if (isWord("law")) {
                step();
                return readLaw();
            }
            if (isWord("gap")) {
                step();
                return readGap();
            }
            int kind = kindOfWord();
            if (kind == NONE || draft.trees >= MOST_TREES) {
                return false;
            }
            step();
            return readTree(kind);
        }

        private boolean readLaw() {
            if (!isNumberUpTo(LAST_LAW)) {
                return false;
            }
            draft.ruling = number;
            step();
            return true;
        }

        private boolean readGap() {
            if (!isLineWithRoom()) {
                return false;
            }
            draft.lineOf(number).append(Line.FREE_GAP);
            step();
            return true;
        }

        private boolean readTree(int kind) {
            if (!isLineWithRoom()) {
                return false;
            }
            int line = number;
            step();
            if (!isNumberUpTo(MOST_ROOT)) {
                return false;
            }
            draft.plant(line, kind, number);
            step();
            return true;
        }

        private boolean isLineWithRoom() {
            return isNumberUpTo(LINES - 1) && !draft.lineOf(number).isFull();
        }

        /** A text has no word for a farmer. */
        private int kindOfWord() {
            if (isWord("poplar")) {
                return Kinds.POPLAR;
            }
            if (isWord("pusher")) {
                return Kinds.PUSHER;
            }
            if (isWord("old")) {
                return Kinds.OLD;
            }
            return isWord("stump") ? Kinds.STUMP : NONE;
        }

        private boolean isWord(String word) {
            if (sort != WORD || end - start != word.length()) {
                return false;
            }
            for (int i = 0; i < word.length(); i++) {
                if (text.letterAt(start + i) != word.charAt(i)) {
                    return false;
                }
            }
            return true;
        }

        private boolean isNumberUpTo(int most) {
            return number != NONE && number <= most;
        }

        private void step() {
            start = end;
            while (start < text.length && text.letterAt(start) == ' ') {
                start++;
            }
            sort = sortAt(start);
            end = sort == END ? start : start + 1;
            while (end < text.length && sort != SIGN && sortAt(end) == sort) {
                end++;
            }
            number = sort == NUMBER && end - start <= MOST_DIGITS ? digitsRead() : NONE;
        }

        private int digitsRead() {
            int read = 0;
            for (int place = start; place < end; place++) {
                read = 10 * read + text.letterAt(place) - '0';
            }
            return read;
        }

        private int sortAt(int place) {
            int letter = text.letterAt(place);
            if (letter == NONE) {
                return END;
            }
            if (letter >= 'a' && letter <= 'z') {
                return WORD;
            }
            return letter >= '0' && letter <= '9' ? NUMBER : SIGN;
        }
    }

    /** What is seen: so many called within so many nights. */
    private static final class Sights {
        private static final int MOST = 6;

        private final int[] within = new int[MOST];
        private final int[] called = new int[MOST];
        int length = 0;

        void clear() {
            length = 0;
        }

        boolean add(int nights, int calls) {
            if (length >= MOST) {
                return false;
            }
            within[length] = nights;
            called[length] = calls;
            length++;
            return true;
        }

        boolean allow(int nights, int calls) {
            for (int i = 0; i < length; i++) {
                if (within[i] == nights && called[i] != calls) {
                    return false;
                }
            }
            return true;
        }
    }

    private static final class Odds {
        private Odds() {
        }

        /** How many ways, of (yes + no) to the n, have at least m times yes. */
        static long waysOfAtLeast(int m, int n, int yes, int no) {
            long ways = 0;
            for (int times = m; times <= n; times++) {
                ways += choices(n, times) * power(yes, times) * power(no, n - times);
            }
            return ways;
        }

        static long power(long base, int exponent) {
            long power = 1;
            for (int i = 0; i < exponent; i++) {
                power *= base;
            }
            return power;
        }

        static long commonDivisor(long a, long b) {
            long divisor = a;
            long rest = b;
            // Euclid's steps on numbers below ten to the ten stay under sixty.
            for (int i = 0; i < 100 && rest != 0; i++) {
                long left = divisor % rest;
                divisor = rest;
                rest = left;
            }
            return divisor;
        }

        private static long choices(int n, int k) {
            long choices = 1;
            for (int i = 1; i <= k; i++) {
                choices = choices * (n - k + i) / i;
            }
            return choices;
        }
    }

    /** Holds a number, a tree, or another holder; it never changes, so slots may share it. */
    private static final class Holder {
        static final int NUMBER = 0, TREE = 1, HOLDER = 2;
        static final int DEEPEST = 4;

        private static final long REST_BY = 1000003;
        private static final int BELOW_ZERO = 2000000;

        private final int what;
        private final long value;
        final Holder inner;
        final int depth;

        Holder(int what, long value, Holder inner) {
            this.what = what;
            this.value = value;
            this.inner = inner;
            this.depth = inner == null ? 1 : inner.depth + 1;
        }

        int takenAs(int wanted) {
            if (wanted != what) {
                return CAST;
            }
            if (inner != null) {
                return inner.depth;
            }
            return what == NUMBER ? rest() : (int) value;
        }

        private int rest() {
            // ~value is how far it is below 0, less 1; -value would fail at the least long.
            return value >= 0 ? (int) (value % REST_BY) : (int) (~value % REST_BY) + BELOW_ZERO;
        }
    }

    /** A row of slots; one that is missing keeps its array for the next. */
    private static final class Bag {
        private static final int MISSING = -1;

        final Holder[] slots = new Holder[MOST_SLOTS];
        private int size = MISSING;

        boolean isMissing() {
            return size == MISSING;
        }

        void lose() {
            size = MISSING;
        }

        void renew(int newSize) {
            for (int i = 0; i < MOST_SLOTS; i++) {
                slots[i] = null;
            }
            size = newSize;
        }

        /** What the machine finds on the way to a slot: NULL, INDEX, or 0. */
        int lookFor(int i) {
            if (isMissing()) {
                return NULL;
            }
            return i >= 0 && i < size ? 0 : INDEX;
        }

        Holder holderAt(int i) {
            return lookFor(i) == 0 ? slots[i] : null;
        }

        int whyNoHolder(int i) {
            int finding = lookFor(i);
            return finding == 0 ? EMPTY : finding;
        }

        /** Differences, not sums: these cannot overflow once none is below 0. */
        boolean hasRow(int i, int n) {
            return i >= 0 && n >= 0 && i <= size && n <= size - i;
        }

        /** Goes from the end that is not overwritten, should both bags be the same one. */
        void takeRow(int j, Bag from, int i, int n) {
            if (!hasRow(j, n) || !from.hasRow(i, n)) {
                return;
            }
            if (j <= i) {
                for (int k = 0; k < n; k++) {
                    slots[j + k] = from.slots[i + k];
                }
            } else {
                for (int k = n - 1; k >= 0; k--) {
                    slots[j + k] = from.slots[i + k];
                }
            }
        }

        int fullSlots() {
            int full = 0;
            for (int i = 0; i < size; i++) {
                if (slots[i] != null) {
                    full++;
                }
            }
            return full;
        }
    }
}
