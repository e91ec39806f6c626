import java.lang.reflect.Method;
import java.util.ArrayList;
import java.util.Arrays;
import java.util.LinkedHashMap;
import java.util.List;
import java.util.Map;

/**
 * The calls of the face by name. Of each argument stand the least and the greatest that it may be, and what is
 * answered beyond: U for UNKNOWN, O for OUTSIDE, B for an argument that is true or false.
 */
final class Calls {
    private static final String[] TABLE = {
        "kind U0:3 O10:60 O0:60 O1:6", "broken O0:8", "flight U0:3 U0:15 U0:15 O0:2", "over U0:3 U0:15 U0:15 O1:60",
        "player U0:7 O1:20 O0:2", "run U0:7 O0:100", "rest U0:7 O0:100", "slack U0:7 U0:15 U0:3 U0:15 U0:15",
        "strike U0:15 U0:7 U0:15 O0:1", "stand U0:7 U0:15 O0:1", "wins U0:7 U0:7 U0:15 U0:15 O1:4",
        "rally O0:2", "three O0:5", "again",
        "note O-1:3 O-1:3 B0:1", "tally U0:3 U0:3 O0:3", "habit U0:3 U0:3", "strongest",
        "cost O0:1 O1:99", "wear U0:3 O0:9", "plan U0:3", "unplan", "costs O1:120", "change",
        "courts O1:4", "come U0:7 O0:99", "leave U0:7", "against U0:7", "round O0:3", "played", "had U0:7 U0:7",
        "of U0:7 O0:4", "count O0:4"
    };

    private static final Map<String, Argument[]> SHAPES = shapes();

    private Calls() {
    }

    /** What one argument may be. */
    static final class Argument {
        final char beyond;
        final int least;
        final int most;

        Argument(String text) {
            int colon = text.indexOf(':');
            beyond = text.charAt(0);
            least = Integer.parseInt(text.substring(1, colon));
            most = Integer.parseInt(text.substring(colon + 1));
        }

        boolean isRefusedBeyond() {
            return beyond != 'B';
        }
    }

    private static Map<String, Argument[]> shapes() {
        Map<String, Argument[]> shapes = new LinkedHashMap<>();
        for (String call : TABLE) {
            String[] words = call.split(" ");
            Argument[] shape = new Argument[words.length - 1];
            for (int i = 0; i < shape.length; i++) {
                shape[i] = new Argument(words[i + 1]);
            }
            shapes.put(words[0], shape);
        }
        return shapes;
    }

    static List<String> names() {
        return new ArrayList<>(SHAPES.keySet());
    }

    static Argument[] shape(String name) {
        return SHAPES.get(name);
    }

    static String text(String name, int... arguments) {
        String list = Arrays.toString(arguments);
        return name + "(" + list.substring(1, list.length() - 1) + ")";
    }

    /** Asks a FeatherHall or a PlainHall; a throw ends the test, since no call may throw. */
    static int ask(Object hall, String name, int... arguments) {
        Argument[] shape = SHAPES.get(name);
        Class<?>[] types = new Class<?>[shape.length];
        Object[] values = new Object[shape.length];
        for (int i = 0; i < shape.length; i++) {
            boolean isTruth = shape[i].beyond == 'B';
            types[i] = isTruth ? boolean.class : int.class;
            if (isTruth) {
                values[i] = arguments[i] > 0;
            } else {
                values[i] = arguments[i];
            }
        }
        try {
            Method method = hall.getClass().getDeclaredMethod(name, types);
            return (Integer) method.invoke(hall, values);
        } catch (ReflectiveOperationException problem) {
            throw new IllegalStateException(text(name, arguments), problem);
        }
    }
}
