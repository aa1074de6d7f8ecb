import java.util.ArrayList;
import java.util.HashMap;
import java.util.List;
import java.util.Map;
import java.util.function.Predicate;

/**
 * The document told a second time, with objects and without thrift, for ModelTest to compare with.
 * It takes arguments that are as told, or that some tree or line does not fit, but none that is OUTSIDE.
 */
final class Model {
    static class Tree {
        final int number;
        final int root;
        int bids = 0;
        String state = "stands";
        int line;

        Tree(int number, int root, int line) {
            this.number = number;
            this.root = root;
            this.line = line;
        }

        int needs() {
            return 0;
        }

        boolean pushes() {
            return false;
        }

        boolean canBePushed() {
            return false;
        }

        boolean canBeCalled() {
            return needs() > 0;
        }
    }

    static class Poplar extends Tree {
        Poplar(int number, int root, int line) {
            super(number, root, line);
        }

        @Override
        int needs() {
            return 1;
        }

        @Override
        boolean canBePushed() {
            return true;
        }
    }

    static final class Pusher extends Poplar {
        Pusher(int number, int root, int line) {
            super(number, root, line);
        }

        @Override
        boolean pushes() {
            return true;
        }
    }

    static final class Old extends Poplar {
        Old(int number, int root, int line) {
            super(number, root, line);
        }

        @Override
        int needs() {
            return super.needs() + 1;
        }
    }

    static class Stump extends Tree {
        Stump(int number, int root, int line) {
            super(number, root, line);
        }
    }

    static final class Farmer extends Stump {
        Farmer(int number, int root, int line) {
            super(number, root, line);
        }

        @Override
        int needs() {
            return 3;
        }
    }

    private static final List<Class<?>> CLASSES =
        List.of(Tree.class, Poplar.class, Pusher.class, Old.class, Stump.class, Farmer.class);

    /** A place holds the number of its tree, or is a gap with an owner (-1: nobody). */
    record Place(boolean gap, int tree) {
    }

    /** All that can be kept. */
    static final class World {
        final List<Tree> trees = new ArrayList<>();
        final List<List<Place>> lines = List.of(new ArrayList<>(), new ArrayList<>());
        int law = 0;
        int turn = 0;
        int night = 0;

        World copy() {
            World w = new World();
            for (Tree t : trees) {
                w.trees.add(likeness(t, kindOf(t)));
            }
            w.lines.get(0).addAll(lines.get(0));
            w.lines.get(1).addAll(lines.get(1));
            w.law = law;
            w.turn = turn;
            w.night = night;
            return w;
        }

        Tree first(int line) {
            List<Place> row = lines.get(line);
            return row.isEmpty() || row.get(0).gap() ? null : trees.get(row.get(0).tree());
        }

        int placeOf(int tree) {
            Tree t = trees.get(tree);
            return t.state.equals("stands") ? lines.get(t.line).indexOf(new Place(false, tree)) : -1;
        }

        int add(int line, int kind, int root) {
            int number = trees.size();
            trees.add(make(kind, number, root, line));
            lines.get(line).add(new Place(false, number));
            return number;
        }

        void goHome(int tree) {
            lines.get(trees.get(tree).line).set(placeOf(tree), new Place(true, tree));
            trees.get(tree).state = "home";
        }

        private void push(List<Place> row) {
            for (int p = 1; p < row.size(); p++) {
                Place behind = row.get(p);
                Place ahead = row.get(p - 1);
                if (behind.gap() || ahead.gap()) {
                    continue;
                }
                Tree one = trees.get(behind.tree());
                Tree other = trees.get(ahead.tree());
                if (one.pushes() && other.canBePushed() && other.root < one.root) {
                    row.set(p, ahead);
                    row.set(p - 1, behind);
                }
            }
        }

        private int way() {
            int l0 = lines.get(0).size();
            int l1 = lines.get(1).size();
            if (l0 + l1 == 0) {
                return -1;
            }
            if (law == 0) {
                return lines.get(turn).isEmpty() ? 1 - turn : turn;
            }
            if (law == 1) {
                return l0 >= l1 ? 0 : 1;
            }
            int r0 = first(0) == null ? -1 : first(0).root;
            int r1 = first(1) == null ? -1 : first(1).root;
            return r0 >= r1 ? 0 : 1;
        }

        private int move(List<Place> row) {
            if (row.isEmpty()) {
                return 99;
            }
            if (row.get(0).gap()) {
                row.remove(0);
                return 99;
            }
            int p = 0;
            while (p < row.size() && !row.get(p).gap() && !trees.get(row.get(p).tree()).canBeCalled()) {
                p++;
            }
            if (p == row.size() || row.get(p).gap()) {
                return 99;
            }
            Tree t = trees.get(row.get(p).tree());
            t.bids++;
            if (t.bids < t.needs()) {
                return 99;
            }
            row.remove(p);
            t.state = "called";
            return t.number;
        }

        int goNight() {
            push(lines.get(0));
            push(lines.get(1));
            int way = way();
            int called = way < 0 ? 99 : move(lines.get(way));
            if (law == 0 && way >= 0) {
                turn = 1 - way;
            }
            night++;
            return called;
        }

        /** The night in which each is called, of 60. */
        Map<Integer, Integer> calls() {
            World w = copy();
            Map<Integer, Integer> calls = new HashMap<>();
            for (int n = 1; n <= 60; n++) {
                int called = w.goNight();
                if (called != 99) {
                    calls.put(called, n);
                }
            }
            return calls;
        }
    }

    private static Tree make(int kind, int number, int root, int line) {
        switch (kind) {
            case 0:
                return new Poplar(number, root, line);
            case 1:
                return new Pusher(number, root, line);
            case 2:
                return new Old(number, root, line);
            case 3:
                return new Stump(number, root, line);
            default:
                return new Farmer(number, root, line);
        }
    }

    private static Tree likeness(Tree t, int kind) {
        Tree n = make(kind, t.number, t.root, t.line);
        n.bids = t.bids;
        n.state = t.state;
        return n;
    }

    static int kindOf(Tree t) {
        return CLASSES.indexOf(t.getClass()) - 1;
    }

    World world = new World();
    private World told = new World();
    private final List<World> past = new ArrayList<>();
    private final Map<Integer, World> keeps = new HashMap<>();
    final List<int[]> sights = new ArrayList<>();

    /** Clauses without a fault. */
    void tell(List<String> clauses) {
        for (String clause : clauses) {
            String[] words = clause.trim().split(" +");
            int kind = List.of("poplar", "pusher", "old", "stump").indexOf(words[0]);
            if (words[0].equals("plain")) {
                told = new World();
            } else if (words[0].equals("law")) {
                told.law = Integer.parseInt(words[1]);
            } else if (words[0].equals("gap")) {
                told.lines.get(Integer.parseInt(words[1])).add(new Place(true, -1));
            } else {
                told.add(Integer.parseInt(words[1]), kind, Integer.parseInt(words[2]));
            }
        }
        world = told.copy();
        past.clear();
        keeps.clear();
        sights.clear();
    }

    int toldTrees() {
        return told.trees.size();
    }

    int toldPlaces(int line) {
        return told.lines.get(line).size();
    }

    private boolean unknown(int tree) {
        return tree < 0 || tree >= world.trees.size();
    }

    private boolean isNot(int tree, String state) {
        return !world.trees.get(tree).state.equals(state);
    }

    int tree(int tree, int what) {
        if (unknown(tree)) {
            return -2;
        }
        Tree t = world.trees.get(tree);
        int[] all = {kindOf(t), t.root, t.state.equals("stands") ? t.line : -1, world.placeOf(tree),
            List.of("stands", "called", "home").indexOf(t.state), t.bids};
        return all[what];
    }

    int at(int line, int place) {
        if (line < 0 || line > 1 || place < 0 || place >= world.lines.get(line).size()) {
            return -2;
        }
        Place p = world.lines.get(line).get(place);
        return !p.gap() ? p.tree() : p.tree() < 0 ? 90 : 50 + p.tree();
    }

    int as(int tree, int kind) {
        if (unknown(tree)) {
            return -2;
        }
        return CLASSES.get(kind).isInstance(world.trees.get(tree)) ? world.trees.get(tree).needs() : -4;
    }

    private void mark() {
        past.add(world.copy());
        if (past.size() > 8) {
            past.remove(0);
        }
    }

    int night() {
        if (world.lines.get(0).isEmpty() && world.lines.get(1).isEmpty()) {
            return -4;
        }
        mark();
        return world.goNight();
    }

    int join(int line, int kind, int root) {
        if (line < 0 || line > 1) {
            return -2;
        }
        if (world.trees.size() == 12 || world.lines.get(line).size() == 12) {
            return -5;
        }
        mark();
        return world.add(line, kind, root);
    }

    int home(int tree) {
        if (unknown(tree)) {
            return -2;
        }
        if (isNot(tree, "stands")) {
            return -4;
        }
        mark();
        int place = world.placeOf(tree);
        world.goHome(tree);
        return place;
    }

    int back(int tree) {
        if (unknown(tree)) {
            return -2;
        }
        if (isNot(tree, "home")) {
            return -4;
        }
        Tree t = world.trees.get(tree);
        int gap = world.lines.get(t.line).indexOf(new Place(true, tree));
        if (gap < 0 && world.lines.get(t.line).size() == 12) {
            return -5;
        }
        mark();
        if (gap >= 0) {
            world.lines.get(t.line).set(gap, new Place(false, tree));
        } else {
            world.lines.get(t.line).add(new Place(false, tree));
            t.bids = 0;
        }
        t.state = "stands";
        return world.placeOf(tree);
    }

    int fell(int tree) {
        if (unknown(tree)) {
            return -2;
        }
        Tree t = world.trees.get(tree);
        if (isNot(tree, "stands") || t instanceof Farmer) {
            return -4;
        }
        mark();
        world.trees.set(tree, new Farmer(tree, t.root, t.line));
        return kindOf(t);
    }

    int law(int law) {
        int was = world.law;
        if (was == law) {
            return -4;
        }
        mark();
        world.law = law;
        return was;
    }

    int undo() {
        if (past.isEmpty()) {
            return -4;
        }
        world = past.remove(past.size() - 1);
        return past.size();
    }

    int keep(int k) {
        if (k < 0 || k > 1) {
            return -2;
        }
        keeps.put(k, world.copy());
        return world.night;
    }

    int again(int k) {
        if (k < 0 || k > 1) {
            return -2;
        }
        if (!keeps.containsKey(k)) {
            return -4;
        }
        world = keeps.get(k).copy();
        past.clear();
        return world.night;
    }

    int when(int tree) {
        if (unknown(tree)) {
            return -2;
        }
        return isNot(tree, "stands") ? -4 : world.calls().getOrDefault(tree, -1);
    }

    int where(int tree, int n) {
        if (unknown(tree)) {
            return -2;
        }
        World w = world.copy();
        for (int i = 0; i < n; i++) {
            w.goNight();
        }
        return w.placeOf(tree) < 0 ? -1 : 100 * w.trees.get(tree).line + w.placeOf(tree);
    }

    int next(int k) {
        List<Integer> order = new ArrayList<>(world.calls().keySet());
        Map<Integer, Integer> calls = world.calls();
        order.sort((a, b) -> calls.get(a) - calls.get(b));
        return k < order.size() ? order.get(k) : -1;
    }

    private int joined(int line, int kind, int root) {
        if (world.lines.get(line).size() == 12) {
            return 1000;
        }
        World w = world.copy();
        int tree = w.add(line, kind, root);
        return w.calls().getOrDefault(tree, 1000);
    }

    int best(int kind, int root) {
        if (world.trees.size() == 12) {
            return -5;
        }
        int zero = joined(0, kind, root);
        int one = joined(1, kind, root);
        return Math.min(zero, one) == 1000 ? -1 : zero <= one ? 0 : 1;
    }

    int send(int tree, int n) {
        if (unknown(tree)) {
            return -2;
        }
        if (isNot(tree, "stands")) {
            return -4;
        }
        int best = -1;
        for (int set = 0; set < 1 << world.trees.size(); set++) {
            int few = Integer.bitCount(set);
            boolean better = best < 0 || few < Integer.bitCount(best);
            if (few <= 2 && better && (set >> tree & 1) == 0 && serves(set, tree, n)) {
                best = set;
            }
        }
        return best;
    }

    private boolean serves(int set, int tree, int n) {
        World w = world.copy();
        for (int other = 0; other < w.trees.size(); other++) {
            if ((set >> other & 1) == 1) {
                if (!w.trees.get(other).state.equals("stands")) {
                    return false;
                }
                w.goHome(other);
            }
        }
        return w.calls().getOrDefault(tree, 1000) <= n;
    }

    int waits(int law) {
        World w = world.copy();
        w.law = law;
        Map<Integer, Integer> calls = w.calls();
        int sum = 0;
        for (Tree t : w.trees) {
            if (t.state.equals("stands")) {
                sum += calls.getOrDefault(t.number, 60);
            }
        }
        return sum;
    }

    private boolean asSeen(World w) {
        Map<Integer, Integer> calls = w.calls();
        Predicate<int[]> so = s -> calls.values().stream().filter(n -> n <= s[0]).count() == s[1];
        return sights.stream().allMatch(so);
    }

    int laws() {
        int set = 0;
        for (int law = 0; law < 3; law++) {
            World w = world.copy();
            w.law = law;
            set += asSeen(w) ? 1 << law : 0;
        }
        return set;
    }

    int kinds(int tree) {
        if (unknown(tree)) {
            return -2;
        }
        if (isNot(tree, "stands")) {
            return -4;
        }
        int set = 0;
        for (int kind = 0; kind < 5; kind++) {
            World w = world.copy();
            w.trees.set(tree, likeness(w.trees.get(tree), kind));
            set += asSeen(w) ? 1 << kind : 0;
        }
        return set;
    }

    int toUndo() {
        return past.size();
    }

    int set(String state) {
        int set = 0;
        for (Tree t : world.trees) {
            set += t.state.equals(state) ? 1 << t.number : 0;
        }
        return set;
    }
}
