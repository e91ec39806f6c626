/**
 * "Refused, and nothing changes: UNKNOWN (no such CELL, KIND, PLAYER, ZONE), OUTSIDE (another number is not as told),
 * NOT (not now: as told), FULL: the first of these that fits." Each refused call is asked of a hall of its own, which
 * is then held against one made alike that was not asked.
 */
public final class RefusalsTest {
    private static final Check CHECK = new Check("RefusalsTest");

    public static void main(String[] args) {
        for (String name : Calls.names()) {
            oneBeyond(name);
            twoBeyond(name);
            atTheEnds(name);
        }
        costBeyond();
        hadWithItself();
        winsAgainstItself();
        notNow();
        fullNow();
        firstThatFits();
        refusedOneAfterTheOther();
        whatAsksAndWhatDoes();
        CHECK.finish();
    }

    /** Asks it in a state, and looks whether it left anything behind. */
    private static void refused(int state, int want, String name, int... arguments) {
        FeatherHall asked = Halls.in(state);
        String call = Calls.text(name, arguments) + " in state " + state;
        CHECK.due(call, Calls.ask(asked, name, arguments), want);
        Look.same(CHECK, "nothing changed behind " + call, asked, Halls.in(state));
    }

    private static boolean answersSlack(String name) {
        return name.equals("slack") || name.equals("strike") || name.equals("stand");
    }

    private static int unknown(String name) {
        return answersSlack(name) ? -102 : FeatherHall.UNKNOWN;
    }

    private static int outside(String name) {
        return answersSlack(name) ? -103 : FeatherHall.OUTSIDE;
    }

    private static int refusal(String name, Calls.Argument argument) {
        return argument.beyond == 'U' ? unknown(name) : outside(name);
    }

    private static int[] beyond(Calls.Argument argument) {
        return new int[] {argument.least - 1, argument.most + 1, Integer.MIN_VALUE, Integer.MAX_VALUE};
    }

    /** Arguments that are as told; PLAYERS that stand side by side are unlike. */
    private static int[] allowed(String name) {
        Calls.Argument[] shape = Calls.shape(name);
        int[] arguments = new int[shape.length];
        for (int i = 0; i < shape.length; i++) {
            arguments[i] = Math.min(shape[i].most, shape[i].least + i);
        }
        return arguments;
    }

    private static void oneBeyond(String name) {
        Calls.Argument[] shape = Calls.shape(name);
        for (int i = 0; i < shape.length; i++) {
            if (!shape[i].isRefusedBeyond()) {
                continue;
            }
            for (int value : beyond(shape[i])) {
                int[] arguments = allowed(name);
                arguments[i] = value;
                // LOSS may be 0, PRICE may be more than 99: those have a test of their own.
                if (!name.equals("cost") || i == 0) {
                    refused(Halls.BUSY, refusal(name, shape[i]), name, arguments);
                }
            }
        }
    }

    /** Of two wrong arguments an UNKNOWN one tells, wherever it stands. */
    private static void twoBeyond(String name) {
        Calls.Argument[] shape = Calls.shape(name);
        for (int i = 0; i < shape.length; i++) {
            for (int j = i + 1; j < shape.length; j++) {
                if (!shape[i].isRefusedBeyond() || !shape[j].isRefusedBeyond()) {
                    continue;
                }
                int[] arguments = allowed(name);
                arguments[i] = shape[i].most + 1;
                arguments[j] = shape[j].least - 1;
                boolean isUnknown = shape[i].beyond == 'U' || shape[j].beyond == 'U';
                refused(Halls.BUSY, isUnknown ? unknown(name) : outside(name), name, arguments);
            }
        }
    }

    /** The least and the greatest of each argument are not refused for it. */
    private static void atTheEnds(String name) {
        Calls.Argument[] shape = Calls.shape(name);
        for (int i = 0; i < shape.length; i++) {
            for (int end = 0; end < 2; end++) {
                int[] arguments = allowed(name);
                arguments[i] = end == 0 ? shape[i].least : shape[i].most;
                if (name.equals("wins") && i < 2) {
                    arguments[1 - i] = 3;
                }
                if (name.equals("had")) {
                    arguments[1 - i] = 3;
                }
                int got = Calls.ask(Halls.in(Halls.BUSY), name, arguments);
                String call = Calls.text(name, arguments) + " is as told";
                CHECK.holds(call, got != unknown(name) && got != outside(name));
            }
        }
    }

    /** "A FEATHER costs PRICE (1 .. 999 ..", "LOSS (0 .. 99 ..": what is too much for one is not for the other. */
    private static void costBeyond() {
        int[][] wrong = {{0, 0}, {0, -1}, {0, 1000}, {1, -1}, {1, 100}, {1, 999}, {-1, 50}, {2, 50}, {2, 0},
            {0, Integer.MIN_VALUE}, {0, Integer.MAX_VALUE}, {1, Integer.MIN_VALUE}, {1, Integer.MAX_VALUE}};
        for (int[] v : wrong) {
            refused(Halls.BUSY, FeatherHall.OUTSIDE, "cost", v);
        }
        int[][] right = {{0, 1}, {0, 100}, {0, 999}, {1, 0}, {1, 99}};
        for (int[] v : right) {
            CHECK.due(Calls.text("cost", v), Calls.ask(Halls.in(Halls.BUSY), "cost", v), v[0] == 0 ? 77 : 5);
        }
    }

    /** "UNKNOWN: also one and itself." */
    private static void hadWithItself() {
        for (int player = 0; player < 8; player++) {
            refused(Halls.BUSY, FeatherHall.UNKNOWN, "had", player, player);
        }
    }

    /** "OUTSIDE: n, or p is q": and UNKNOWN comes first. */
    private static void winsAgainstItself() {
        for (int player = 0; player < 8; player++) {
            refused(Halls.BUSY, FeatherHall.OUTSIDE, "wins", player, player, 5, 5, 1);
        }
        refused(Halls.BUSY, FeatherHall.UNKNOWN, "wins", 8, 8, 5, 5, 1);
        refused(Halls.BUSY, FeatherHall.UNKNOWN, "wins", -1, -1, 5, 5, 1);
        refused(Halls.BUSY, FeatherHall.UNKNOWN, "wins", 4, 4, 16, 5, 1);
        refused(Halls.BUSY, FeatherHall.UNKNOWN, "wins", 4, 4, 5, -1, 5);
    }

    private static void notNow() {
        for (int how = 0; how <= 2; how++) {
            refused(Halls.OVER, FeatherHall.NOT, "rally", how);
        }
        for (int player = 0; player < 8; player++) {
            refused(Halls.NEW, FeatherHall.NOT, "leave", player);
            refused(Halls.FULL, FeatherHall.NOT, "come", player, 5);
        }
        refused(Halls.BUSY, FeatherHall.NOT, "leave", 2);
        refused(Halls.BUSY, FeatherHall.NOT, "leave", 7);
        refused(Halls.BUSY, FeatherHall.NOT, "come", 0, 0);
        refused(Halls.NEW, FeatherHall.NOT, "costs", 1);
        refused(Halls.NEW, FeatherHall.NOT, "costs", 120);
        refused(Halls.NEW, FeatherHall.NOT, "change");
    }

    private static void fullNow() {
        refused(Halls.FULL, FeatherHall.FULL, "note", 0, 0, 0);
        refused(Halls.FULL, FeatherHall.FULL, "note", 3, 3, 1);
        refused(Halls.FULL, FeatherHall.FULL, "note", -1, 2, 0);
        refused(Halls.FULL, FeatherHall.FULL, "note", 2, -1, 0);
        refused(Halls.FULL, FeatherHall.FULL, "note", -1, -1, 1);
        for (int kind = 0; kind < 4; kind++) {
            refused(Halls.FULL, FeatherHall.FULL, "plan", kind);
        }
    }

    /** "The first of these that fits": a wrong argument ahead of NOT and FULL. */
    private static void firstThatFits() {
        refused(Halls.OVER, FeatherHall.OUTSIDE, "rally", -1);
        refused(Halls.OVER, FeatherHall.OUTSIDE, "rally", 3);
        refused(Halls.NEW, FeatherHall.OUTSIDE, "costs", 0);
        refused(Halls.NEW, FeatherHall.OUTSIDE, "costs", 121);
        refused(Halls.FULL, FeatherHall.OUTSIDE, "come", 0, -1);
        refused(Halls.FULL, FeatherHall.OUTSIDE, "come", 0, 100);
        refused(Halls.FULL, FeatherHall.UNKNOWN, "come", -1, 5);
        refused(Halls.FULL, FeatherHall.UNKNOWN, "come", 8, 100);
        refused(Halls.NEW, FeatherHall.UNKNOWN, "leave", -1);
        refused(Halls.NEW, FeatherHall.UNKNOWN, "leave", 8);
        refused(Halls.FULL, FeatherHall.OUTSIDE, "note", -2, 0, 0);
        refused(Halls.FULL, FeatherHall.OUTSIDE, "note", 4, 0, 0);
        refused(Halls.FULL, FeatherHall.OUTSIDE, "note", 0, -2, 1);
        refused(Halls.FULL, FeatherHall.OUTSIDE, "note", 0, 4, 1);
        refused(Halls.FULL, FeatherHall.UNKNOWN, "plan", -1);
        refused(Halls.FULL, FeatherHall.UNKNOWN, "plan", 4);
    }

    /** Many refused calls on one hall leave as little behind as one. */
    private static void refusedOneAfterTheOther() {
        for (int state = 0; state < Halls.STATES; state++) {
            FeatherHall asked = Halls.in(state);
            for (String name : Calls.names()) {
                Calls.Argument[] shape = Calls.shape(name);
                if (shape.length == 0) {
                    continue;
                }
                int[] arguments = allowed(name);
                arguments[0] = shape[0].most + 1000;
                int got = Calls.ask(asked, name, arguments);
                CHECK.due(Calls.text(name, arguments) + " in state " + state, got, refusal(name, shape[0]));
            }
            Look.same(CHECK, "nothing changed behind all of them in state " + state, asked, Halls.in(state));
        }
    }

    /** What only asks leaves nothing behind; what does something can be seen, or the tests above would be blind. */
    private static void whatAsksAndWhatDoes() {
        String[] asks = {"flight", "over", "slack", "strike", "stand", "wins", "three", "tally", "habit", "strongest",
            "costs", "change", "against", "round", "had", "of", "count"};
        for (String name : asks) {
            for (int state = 0; state < Halls.STATES; state++) {
                FeatherHall asked = Halls.in(state);
                Calls.ask(asked, name, allowed(name));
                Look.same(CHECK, "nothing changed behind " + name + " in state " + state, asked, Halls.in(state));
            }
        }
        String[] does = {"kind", "broken", "player", "run", "rest", "rally", "again", "note", "cost", "wear", "plan",
            "unplan", "courts", "leave", "played"};
        for (String name : does) {
            FeatherHall asked = Halls.in(Halls.BUSY);
            Calls.ask(asked, name, allowed(name));
            CHECK.holds("something changed behind " + name, !Look.alike(asked, Halls.in(Halls.BUSY)));
        }
        FeatherHall asked = Halls.in(Halls.BUSY);
        asked.come(7, 1);
        CHECK.holds("something changed behind come", !Look.alike(asked, Halls.in(Halls.BUSY)));
    }
}
