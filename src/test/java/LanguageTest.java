import java.io.IOException;
import java.lang.reflect.Constructor;
import java.lang.reflect.Field;
import java.lang.reflect.Method;
import java.lang.reflect.Modifier;
import java.nio.charset.StandardCharsets;
import java.nio.file.Files;
import java.nio.file.Path;
import java.util.Arrays;
import java.util.List;
import java.util.Set;
import java.util.TreeSet;
import java.util.regex.Matcher;
import java.util.regex.Pattern;

/** The public face, and those rules of LANGUAGE.md that a program can look for. Run from the project's folder. */
public final class LanguageTest {
    private static final Path SOURCE = Path.of("src/main/java/PoplarQueue.java");
    private static final Set<String> FACE = Set.of("write(int)", "erase()", "fault()", "plain()", "tree(int,int)",
        "at(int,int)", "as(int,int)", "night()", "join(int,int,int)", "home(int)", "back(int)", "fell(int)", "law(int)",
        "undo()", "keep(int)", "again(int)", "when(int)", "where(int,int)", "next(int)", "best(int,int)", "send(int,int)",
        "waits(int)", "seen(int,int)", "forget()", "laws()", "kinds(int)", "door(int,int,int,int)", "bag(int,int)",
        "hold(int,int,int,long)", "wrap(int,int)", "open(int,int)", "held(int,int,int)", "move(int,int,int,int,int)",
        "drop(int)", "count(int)");
    private static final String CONSTANTS = "CAST=-14 EMPTY=-13 FULL=-5 INDEX=-12 NONE=-1 NOT=-4 NULL=-11 OUTSIDE=-3 SIZE=-15 UNKNOWN=-2";
    private static final List<String> NEVER = List.of("throw", "throws", "try", "catch", "finally", "synchronized", "assert",
        "import", "package", "var", "hashCode", "toString", "System.out", "Math.random", "Thread", "->", "::", "@");

    private static final Due d = new Due("LanguageTest");

    public static void main(String[] args) throws IOException, IllegalAccessException {
        String source = Files.readString(SOURCE, StandardCharsets.ISO_8859_1);
        face();
        members();
        words(bare(source));
        lengths(source);
        d.holds("signs 1 to 127 alone", source.chars().allMatch(c -> c >= 1 && c <= 127));
        d.end();
    }

    private static boolean isPrivate(int modifiers) {
        return Modifier.isPrivate(modifiers);
    }

    private static void face() throws IllegalAccessException {
        Class<?> c = PoplarQueue.class;
        d.holds("public and final", Modifier.isPublic(c.getModifiers()) && Modifier.isFinal(c.getModifiers()));
        Set<String> methods = new TreeSet<>();
        for (Method m : c.getDeclaredMethods()) {
            if (!isPrivate(m.getModifiers())) {
                String given = Arrays.toString(m.getParameterTypes()).replaceAll("[\\[\\] ]", "");
                methods.add(m.getName() + "(" + given + ")");
                d.holds(m.getName() + " is public, answers an int", Modifier.isPublic(m.getModifiers())
                    && !Modifier.isStatic(m.getModifiers()) && m.getReturnType() == int.class);
            }
        }
        d.holds("the methods of the face: " + methods, methods.equals(new TreeSet<>(FACE)));
        Set<String> constants = new TreeSet<>();
        for (Field f : c.getDeclaredFields()) {
            if (!isPrivate(f.getModifiers())) {
                constants.add(f.getName() + "=" + f.getInt(null));
                d.holds(f.getName() + " is a constant", Modifier.isPublic(f.getModifiers())
                    && Modifier.isStatic(f.getModifiers()) && Modifier.isFinal(f.getModifiers()));
            }
        }
        d.holds("the constants of the face: " + constants, String.join(" ", constants).equals(CONSTANTS));
        Constructor<?>[] made = c.getDeclaredConstructors();
        d.holds("one public constructor", made.length == 1 && Modifier.isPublic(made[0].getModifiers())
            && made[0].getParameterCount() == 0);
    }

    private static void members() {
        Class<?>[] inside = PoplarQueue.class.getDeclaredClasses();
        d.holds("classes: " + inside.length, inside.length < 12);
        for (Class<?> c : inside) {
            d.holds(c + " is static", Modifier.isStatic(c.getModifiers()) && !Modifier.isPublic(c.getModifiers()));
            d.holds(c + " has no class inside", c.getDeclaredClasses().length == 0);
            for (Method m : c.getDeclaredMethods()) {
                d.holds(c + "." + m.getName() + " has a name of its own", FACE.stream().noneMatch(f -> f.startsWith(m.getName() + "(")));
                d.holds(c + "." + m.getName() + " has few parameters", m.getParameterCount() <= 7);
            }
            fieldsOf(c);
        }
        fieldsOf(PoplarQueue.class);
        for (Method m : PoplarQueue.class.getDeclaredMethods()) {
            d.holds(m.getName() + " has a name of its own", !isPrivate(m.getModifiers())
                || FACE.stream().noneMatch(f -> f.startsWith(m.getName() + "(")));
        }
    }

    private static void fieldsOf(Class<?> c) {
        int own = 0;
        for (Field f : c.getDeclaredFields()) {
            own += Modifier.isStatic(f.getModifiers()) ? 0 : 1;
            d.holds(c + "." + f.getName() + " is no static state", !Modifier.isStatic(f.getModifiers())
                || Modifier.isFinal(f.getModifiers()));
        }
        d.holds(c + " has " + own + " fields", own <= 20);
    }

    /** The source without its comments and texts. */
    private static String bare(String source) {
        return source.replaceAll("(?s)/\\*.*?\\*/", " ").replaceAll("//[^\n]*", " ").replaceAll("\"[^\"\n]*\"", "\"\"");
    }

    private static void words(String bare) {
        for (String word : NEVER) {
            boolean letters = Character.isLetter(word.charAt(0));
            String edge = letters ? "\\b" : "";
            d.holds("no " + word, !Pattern.compile(edge + Pattern.quote(word) + edge).matcher(bare).find());
        }
        d.holds("none whose name ends in Exact", !bare.contains("Exact"));
        Matcher library = Pattern.compile("\\b(System|Integer|Long|Math|Arrays|String|List)\\.(\\w+)").matcher(bare);
        while (library.find()) {
            d.holds(library.group() + " is of the library", Set.of("System.arraycopy", "Integer.bitCount").contains(library.group()));
        }
    }

    /** Methods stand between a line that opens at one or two steps in and the brace at the same depth. */
    private static void lengths(String source) {
        String[] lines = source.split("\n");
        for (int i = 0; i < lines.length; i++) {
            Matcher opens = Pattern.compile("( {4}| {8})[a-z][^;=]*\\) \\{").matcher(lines[i]);
            if (opens.matches()) {
                int end = i;
                while (!lines[end].equals(opens.group(1) + "}")) {
                    end++;
                }
                d.holds("line " + (i + 1) + ": a method of " + (end - i + 1) + " lines", end - i < 60);
            }
            d.holds("line " + (i + 1) + " is not long", lines[i].length() <= 160);
        }
    }
}
