import java.util.List;
import java.util.Map;
import java.util.Random;
import java.util.regex.Matcher;
import java.util.regex.Pattern;

/** Random texts, most of them with few faults, compared with a second reader. */
public final class TextTest {
    private static final int RUNS = 4000;
    private static final int TEXTS = 6;
    private static final Pattern TOKEN = Pattern.compile("[a-z]+|[0-9]+|[^ ]", Pattern.DOTALL);
    /** What follows each word, by the most that it may be: a line or another number. */
    private static final Map<String, List<Integer>> NUMBERS = Map.of("plain", List.of(), "gap", List.of(1),
        "law", List.of(2), "poplar", List.of(1, 99), "pusher", List.of(1, 99), "old", List.of(1, 99), "stump", List.of(1, 99));

    private static final Due d = new Due("TextTest");

    private int trees = 0;
    private int[] places = new int[2];
    private int clauses = 0;

    public static void main(String[] args) {
        for (int seed = 0; seed < RUNS && d.wrong() < 20; seed++) {
            Random random = new Random(seed);
            PoplarQueue queue = new PoplarQueue();
            TextTest told = new TextTest();
            for (int i = 0; i < TEXTS; i++) {
                told = told.next(queue, text(random), "run " + seed);
            }
        }
        d.end();
    }

    /** What is told behind this text: the same as ahead of it, if it has a fault. */
    private TextTest next(PoplarQueue queue, String text, String run) {
        TextTest draft = new TextTest();
        draft.trees = trees;
        draft.places = places.clone();
        int fault = draft.fault(text);
        Due.write(queue, text);
        String name = run + ", '" + text + "': ";
        d.due(name + "fault", queue.fault(), fault);
        d.due(name + "plain", queue.plain(), fault == PoplarQueue.NONE ? draft.clauses : PoplarQueue.NOT);
        d.due(name + "letters left", queue.erase(), fault == PoplarQueue.NONE ? 0 : text.length());
        TextTest told = fault == PoplarQueue.NONE ? draft : this;
        d.due(name + "trees", queue.count(0), told.trees);
        d.due(name + "line 0", queue.count(1), told.places[0]);
        d.due(name + "line 1", queue.count(2), told.places[1]);
        return told;
    }

    private int fault(String text) {
        Matcher m = TOKEN.matcher(text);
        String word = null;
        int given = 0;
        int line = 0;
        while (m.find()) {
            String token = m.group();
            if (word == null) {
                boolean tree = NUMBERS.getOrDefault(token, List.of()).size() == 2;
                if (!NUMBERS.containsKey(token) || tree && trees == 12) {
                    return m.start();
                }
                word = token;
                given = 0;
                done(word, 0, 0);
            } else if (given < NUMBERS.get(word).size()) {
                if (!token.matches("[0-9]{1,2}") || Integer.parseInt(token) > NUMBERS.get(word).get(given)) {
                    return m.start();
                }
                line = given == 0 ? Integer.parseInt(token) : line;
                if (given == 0 && !word.equals("law") && places[line] == 12) {
                    return m.start();
                }
                given++;
                done(word, given, line);
            } else if (token.equals(";") && clauses < 20) {
                word = null;
            } else {
                return m.start();
            }
        }
        return word == null || given < NUMBERS.get(word).size() ? text.length() : PoplarQueue.NONE;
    }

    /** Counts a clause with the last of its tokens. */
    private void done(String word, int given, int line) {
        if (given != NUMBERS.get(word).size()) {
            return;
        }
        clauses++;
        if (word.equals("plain")) {
            trees = 0;
            places = new int[2];
        } else if (!word.equals("law")) {
            places[line]++;
            trees += given == 2 ? 1 : 0;
        }
    }

    private static String text(Random random) {
        StringBuilder text = new StringBuilder();
        int wanted = random.nextInt(random.nextInt(3) == 0 ? 24 : 9) + 1;
        for (int i = 0; i < wanted; i++) {
            text.append(i == 0 ? "" : ";").append(clause(random));
        }
        if (random.nextInt(3) == 0) {
            spoil(text, random);
        }
        return text.length() > 200 ? text.substring(0, 200) : text.toString();
    }

    private static String clause(Random random) {
        String blank = " ".repeat(random.nextInt(8) == 0 ? 2 : 0);
        int line = random.nextInt(40) == 0 ? 2 : random.nextInt(2);
        switch (random.nextInt(12)) {
            case 0:
                return random.nextInt(4) == 0 ? "plain" : "law " + random.nextInt(3);
            case 1:
            case 2:
            case 3:
            case 4:
            case 5:
                return blank + "gap " + line + blank;
            default:
                String word = List.of("poplar", "pusher", "old", "stump", "old").get(random.nextInt(5));
                return word + (random.nextInt(9) == 0 ? "" : " ") + line + " " + blank + random.nextInt(100);
        }
    }

    private static void spoil(StringBuilder text, Random random) {
        int at = random.nextInt(text.length());
        String letters = "; a7z0Px.\t~{/:`" + (char) 255 + (char) 0;
        char letter = letters.charAt(random.nextInt(letters.length()));
        switch (random.nextInt(4)) {
            case 0:
                text.deleteCharAt(at);
                break;
            case 1:
                text.insert(at, letter);
                break;
            case 2:
                text.setCharAt(at, letter);
                break;
            default:
                text.setLength(at);
        }
    }
}
