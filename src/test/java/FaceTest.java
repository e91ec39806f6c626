import java.io.IOException;
import java.lang.reflect.Constructor;
import java.lang.reflect.Field;
import java.lang.reflect.Method;
import java.lang.reflect.Modifier;
import java.nio.file.Files;
import java.nio.file.Path;
import java.util.Arrays;
import java.util.Set;
import java.util.TreeSet;
import java.util.regex.Matcher;
import java.util.regex.Pattern;

/** The face of the document, whole and no more, and those rules of LANGUAGE.md that can be seen from outside. */
public final class FaceTest {
    private static final Check CHECK = new Check("FaceTest");
    private static final String[] FACE = {
        "kind 4", "broken 1", "flight 4", "over 4", "player 3", "run 2", "rest 2", "slack 5", "strike 4", "stand 3",
        "wins 5", "rally 1", "three 1", "again 0", "note 3", "tally 3", "habit 2", "strongest 0", "cost 2", "wear 2",
        "plan 1", "unplan 0", "costs 1", "change 0", "courts 1", "come 2", "leave 1", "against 1", "round 1",
        "played 0", "had 2", "of 2", "count 1"
    };
    private static final String[] FORBIDDEN = {
        "throw", "throws", "try", "catch", "synchronized", "assert", "protected", "volatile", "native", "->", "::",
        "\\[\\]\\[\\]", "Exact\\(", "HashMap", "Object", "double", "float"
    };

    public static void main(String[] args) throws IOException {
        constants();
        methods();
        words();
        CHECK.finish();
    }

    private static void constants() {
        int[] got = {FeatherHall.NONE, FeatherHall.UNKNOWN, FeatherHall.OUTSIDE, FeatherHall.NOT, FeatherHall.FULL};
        for (int i = 0; i < got.length; i++) {
            CHECK.due("constant " + i, got[i], -1 - i);
        }
        Set<String> open = new TreeSet<>();
        for (Field field : FeatherHall.class.getDeclaredFields()) {
            if (!Modifier.isPrivate(field.getModifiers())) {
                open.add(field.getName());
            }
            boolean isStatic = Modifier.isStatic(field.getModifiers());
            CHECK.holds(field + " is final", !isStatic || Modifier.isFinal(field.getModifiers()));
        }
        CHECK.holds("constants: " + open,
            open.equals(new TreeSet<>(Arrays.asList("NONE", "UNKNOWN", "OUTSIDE", "NOT", "FULL"))));
    }

    private static void methods() {
        Set<String> open = new TreeSet<>();
        for (Method method : FeatherHall.class.getDeclaredMethods()) {
            if (!Modifier.isPrivate(method.getModifiers())) {
                open.add(method.getName() + " " + method.getParameterCount());
                CHECK.holds(method + " answers an int", method.getReturnType() == int.class);
            }
        }
        CHECK.holds("methods: " + open, open.equals(new TreeSet<>(Arrays.asList(FACE))));
        Constructor<?>[] constructors = FeatherHall.class.getDeclaredConstructors();
        CHECK.due("constructors", constructors.length, 1);
        CHECK.due("its parameters", constructors[0].getParameterCount(), 0);
        Set<String> names = new TreeSet<>();
        for (String method : FACE) {
            names.add(method.substring(0, method.indexOf(' ')));
        }
        for (Class<?> inside : FeatherHall.class.getDeclaredClasses()) {
            CHECK.holds(inside + " is static", Modifier.isStatic(inside.getModifiers()));
            for (Method method : inside.getDeclaredMethods()) {
                CHECK.holds(method + " has a name of its own", !names.contains(method.getName()));
                CHECK.holds(method + " takes seven at most", method.getParameterCount() <= 7);
            }
            CHECK.holds(inside + " has twenty fields at most", inside.getDeclaredFields().length <= 20);
        }
        CHECK.holds("twelve classes at most", FeatherHall.class.getDeclaredClasses().length < 12);
    }

    private static void words() throws IOException {
        String source = Files.readString(Path.of("src/main/java/FeatherHall.java"));
        String code = source.replaceAll("(?s)/\\*.*?\\*/", " ").replaceAll("//[^\n]*", " ");
        for (String word : FORBIDDEN) {
            String whole = Character.isLetter(word.charAt(0)) && word.matches("\\w+") ? "\\b" + word + "\\b" : word;
            Matcher found = Pattern.compile(whole).matcher(code);
            CHECK.holds("no " + word, !found.find());
        }
        CHECK.holds("only signs 1 to 127", source.matches("(?s)[\\x01-\\x7f]*"));
    }
}
