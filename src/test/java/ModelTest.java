import java.util.ArrayList;
import java.util.List;
import java.util.Random;

/** Random runs of calls, each answer and each state behind it compared with the model's. */
public final class ModelTest {
    private static final int RUNS = 1500;
    private static final int CALLS = 120;

    private static final Due d = new Due("ModelTest");

    private final Random random;
    private final PoplarQueue queue = new PoplarQueue();
    private final Model model = new Model();
    private final String run;

    private ModelTest(int seed) {
        random = new Random(seed);
        run = "run " + seed + ": ";
    }

    public static void main(String[] args) {
        for (int seed = 0; seed < RUNS && d.wrong() < 20; seed++) {
            new ModelTest(seed).go();
        }
        d.end();
    }

    private void go() {
        tell();
        for (int i = 0; i < CALLS && d.wrong() < 20; i++) {
            if (random.nextInt(60) == 0) {
                tell();
            } else if (random.nextInt(3) > 0) {
                doSomething();
            } else {
                askSomething();
            }
            compareStates();
        }
    }

    private void due(String call, int got, int want) {
        d.due(run + call, got, want);
    }

    private int below(int n) {
        return random.nextInt(n);
    }

    private void tell() {
        List<String> clauses = new ArrayList<>();
        int trees = model.toldTrees();
        int[] places = {model.toldPlaces(0), model.toldPlaces(1)};
        int wanted = 1 + below(14);
        for (int i = 0; i < wanted; i++) {
            int line = below(2);
            int sort = below(14);
            if (sort == 0 && clauses.size() < 3) {
                clauses.add("plain");
                trees = 0;
                places = new int[2];
            } else if (sort == 1) {
                clauses.add("law " + below(3));
            } else if (sort < 4 && places[line] < 12) {
                clauses.add("gap " + line);
                places[line]++;
            } else if (sort >= 4 && trees < 12 && places[line] < 12) {
                String word = new String[] {"poplar", "pusher", "old", "stump"}[sort < 12 ? below(3) : 3];
                clauses.add(word + " " + line + " " + below(below(2) == 0 ? 4 : 100));
                trees++;
                places[line]++;
            }
        }
        String text = String.join(";", clauses);
        if (clauses.isEmpty() || text.length() > 200) {
            return;
        }
        due("tell " + text, Due.tell(queue, text), clauses.size());
        model.tell(clauses);
    }

    private void doSomething() {
        int tree = below(13);
        switch (below(16)) {
            case 0:
            case 1: {
                int line = below(8) == 0 ? below(4) - 1 : below(2);
                int kind = below(5);
                int root = below(100);
                due("join", queue.join(line, kind, root), model.join(line, kind, root));
                break;
            }
            case 2:
            case 3:
                due("home(" + tree + ")", queue.home(tree), model.home(tree));
                break;
            case 4:
            case 5:
            case 6:
                due("back(" + tree + ")", queue.back(tree), model.back(tree));
                break;
            case 7:
                due("fell(" + tree + ")", queue.fell(tree), model.fell(tree));
                break;
            case 8: {
                int law = below(3);
                due("law(" + law + ")", queue.law(law), model.law(law));
                break;
            }
            case 9:
                due("undo()", queue.undo(), model.undo());
                break;
            case 10: {
                int k = below(3);
                boolean keep = below(3) == 0;
                due(keep ? "keep" : "again", keep ? queue.keep(k) : queue.again(k), keep ? model.keep(k) : model.again(k));
                break;
            }
            case 11:
                see();
                break;
            default:
                due("night()", queue.night(), model.night());
        }
    }

    private void see() {
        if (below(4) == 0) {
            due("forget()", queue.forget(), model.sights.size());
            model.sights.clear();
            return;
        }
        int n = 1 + below(20);
        int k = below(Math.min(n, 8) + 1);
        if (model.sights.size() < 6) {
            model.sights.add(new int[] {n, k});
            due("seen", queue.seen(n, k), model.sights.size());
        } else {
            due("seen", queue.seen(n, k), PoplarQueue.FULL);
        }
    }

    private void askSomething() {
        int tree = below(13);
        int n = 1 + below(below(2) == 0 ? 60 : 15);
        int law = below(3);
        int kind = below(6);
        switch (below(9)) {
            case 0:
                due("when(" + tree + ")", queue.when(tree), model.when(tree));
                break;
            case 1:
                due("where(" + tree + ", " + n + ")", queue.where(tree, n - 1), model.where(tree, n - 1));
                break;
            case 2:
                due("next(" + law + ")", queue.next(kind), model.next(kind));
                break;
            case 3: {
                int root = below(100);
                due("best(" + kind % 5 + ", " + root + ")", queue.best(kind % 5, root), model.best(kind % 5, root));
                break;
            }
            case 4:
                due("send(" + tree + ", " + n + ")", queue.send(tree, n), model.send(tree, n));
                break;
            case 5:
                due("waits(" + law + ")", queue.waits(law), model.waits(law));
                break;
            case 6:
                due("laws()", queue.laws(), model.laws());
                break;
            case 7:
                due("kinds(" + tree + ")", queue.kinds(tree), model.kinds(tree));
                break;
            default:
                due("as(" + tree + ", " + kind + ")", queue.as(tree, kind), model.as(tree, kind));
        }
    }

    private void compareStates() {
        int[] want = {model.world.trees.size(), model.world.lines.get(0).size(), model.world.lines.get(1).size(),
            model.world.law, model.world.night, model.world.turn, model.set("called"), model.set("home"),
            model.sights.size(), 0, model.toUndo(), 0};
        for (int what = 0; what < want.length; what++) {
            due("count(" + what + ")", queue.count(what), want[what]);
        }
        for (int line = 0; line < 2; line++) {
            for (int place = 0; place < 13; place++) {
                due("at(" + line + ", " + place + ")", queue.at(line, place), model.at(line, place));
            }
        }
        for (int tree = 0; tree < 13; tree++) {
            for (int what = 0; what < 6; what++) {
                due("tree(" + tree + ", " + what + ")", queue.tree(tree, what), model.tree(tree, what));
            }
        }
    }
}
