/** Promises 1 to 34: runs of calls, each asked of FeatherHall and of PlainHall, which must answer alike. */
public final class AgainstPlainTest {
    /** What a run is made of, each call as often as it stands there; and how many such runs there are. */
    private static final String[] THEMES = {
        "40 kind broken flight flight flight flight over over over over",
        "20 kind broken player run rest slack slack slack slack slack strike strike of of",
        "8 kind broken player run rest strike strike stand of",
        "1 kind player run rest wins wins wins wins wins wins wins wins wins wins wins wins",
        "30 rally rally rally rally rally rally rally three three three three again",
        "40 note note note note tally tally habit habit strongest count",
        "20 cost wear plan plan plan plan costs costs costs change count unplan",
        "40 courts come come come come leave against against round round round played played had of count",
        "20 kind broken flight over player run rest slack rally three again note tally habit strongest cost wear "
            + "plan unplan costs change courts come leave against round played had of count"
    };

    /** BROKEN, PACE and REACH of both, then the KINDS: found by a search for rallies that take several strikes. */
    private static final int[][] SETTINGS = {
        {0, 3, 2, 1, 2, 28, 55, 3, 42, 12, 5, 51, 4, 5, 23, 19, 4},
        {1, 6, 2, 7, 1, 52, 24, 5, 41, 43, 5, 52, 48, 6, 56, 13, 5},
        {3, 6, 1, 4, 1, 39, 0, 4, 34, 26, 1, 34, 44, 6, 44, 7, 3},
        {0, 1, 2, 4, 2, 37, 39, 3, 45, 24, 5, 23, 30, 3, 43, 51, 3},
        {2, 18, 1, 5, 0, 34, 29, 5, 27, 11, 2, 19, 37, 6, 11, 43, 5},
        {5, 6, 1, 7, 0, 34, 19, 4, 29, 2, 4, 31, 27, 3, 11, 0, 6},
        {3, 12, 2, 7, 1, 39, 56, 6, 40, 21, 5, 46, 5, 3, 40, 57, 4},
        {2, 3, 1, 3, 1, 15, 12, 4, 57, 17, 2, 40, 54, 6, 43, 55, 4}
    };

    private static long seed = 1L;

    private static int next(int below) {
        seed = seed * 6364136223846793005L + 1442695040888963407L;
        return (int) ((seed >>> 33) % below);
    }

    private static int value(Calls.Argument argument) {
        int least = argument.least;
        int most = argument.most;
        switch (next(60)) {
            case 0:
                return least - 1;
            case 1:
                return most + 1;
            case 2:
                return next(2) == 0 ? Integer.MIN_VALUE : Integer.MAX_VALUE;
            case 3:
            case 4:
            case 5:
                return least;
            case 6:
            case 7:
            case 8:
                return most;
            default:
                return least + next(most - least + 1);
        }
    }

    private static int[] arguments(String name) {
        Calls.Argument[] shape = Calls.shape(name);
        int[] arguments = new int[shape.length];
        for (int i = 0; i < arguments.length; i++) {
            arguments[i] = value(shape[i]);
        }
        return arguments;
    }

    private static void ask(Check check, FeatherHall hall, PlainHall plain, String name, int... arguments) {
        check.due(Calls.text(name, arguments), Calls.ask(hall, name, arguments), Calls.ask(plain, name, arguments));
    }

    private static void runTheme(Check check, String theme) {
        String[] words = theme.split(" ");
        int runs = Integer.parseInt(words[0]);
        for (int run = 0; run < runs; run++) {
            FeatherHall hall = new FeatherHall();
            PlainHall plain = new PlainHall();
            for (int call = 0; call < 512; call++) {
                String name = words[1 + next(words.length - 1)];
                ask(check, hall, plain, name, arguments(name));
            }
        }
    }

    /** All FLIGHTS of the KINDS as at first, THE FEATHER whole and broken; a hall for each KIND and CELL. */
    private static void runAsAtFirst(Check check) {
        for (int broken = 0; broken <= 8; broken++) {
            for (int from = 0; from < 64; from++) {
                FeatherHall hall = new FeatherHall();
                PlainHall plain = new PlainHall();
                ask(check, hall, plain, "broken", broken);
                for (int t = 0; t < 16; t++) {
                    for (int what = 0; what < 3; what++) {
                        ask(check, hall, plain, "flight", from / 16, from % 16, t, what);
                    }
                    for (int n = 1; n <= 6; n++) {
                        ask(check, hall, plain, "over", from / 16, from % 16, t, n);
                    }
                }
            }
        }
    }

    /** Habits that lean, so that some are past chance and some only nearly. */
    private static void runLeaning(Check check) {
        for (int run = 0; run < 60; run++) {
            FeatherHall hall = new FeatherHall();
            PlainHall plain = new PlainHall();
            int lean = 2 + next(4);
            for (int note = 0; note < 61; note++) {
                int zone = next(4);
                int kind = next(lean) == 0 ? next(4) : zone;
                ask(check, hall, plain, "note", zone, kind, 0);
                ask(check, hall, plain, "strongest");
                ask(check, hall, plain, "habit", zone, kind);
                ask(check, hall, plain, "habit", next(4), next(4));
            }
        }
    }

    /** Rallies of which some are first won within 2, 3 and 4, from all CELLS; then ones taken by chance. */
    private static void runRallies(Check check) {
        int[] first = new int[6];
        for (int[] setting : SETTINGS) {
            rallies(check, setting, first);
        }
        for (int within = 1; within <= 5; within++) {
            check.holds("some rally is first won within " + within + " (5: never)", first[within] > 0);
        }
        for (int run = 0; run < 12; run++) {
            int[] setting = new int[17];
            setting[0] = next(9);
            for (int player = 0; player < 2; player++) {
                setting[1 + 2 * player] = 1 + next(20);
                setting[2 + 2 * player] = next(3);
            }
            for (int kind = 0; kind < 4; kind++) {
                setting[5 + 3 * kind] = 10 + next(51);
                setting[6 + 3 * kind] = next(61);
                setting[7 + 3 * kind] = 1 + next(6);
            }
            rallies(check, setting, first);
        }
    }

    private static void rallies(Check check, int[] setting, int[] first) {
        PlainHall plain = new PlainHall();
        for (int a = 0; a < 16; a++) {
            FeatherHall hall = new FeatherHall();
            set(hall, setting);
            set(plain, setting);
            for (int c = 0; c < 16; c++) {
                int within = 1;
                while (within < 5 && hall.wins(3, 5, a, c, within) == 0) {
                    within++;
                }
                first[within]++;
                for (int n = 1; n <= 4; n++) {
                    ask(check, hall, plain, "wins", 3, 5, a, c, n);
                }
            }
        }
    }

    private static void set(Object hall, int[] setting) {
        Calls.ask(hall, "broken", setting[0]);
        Calls.ask(hall, "player", 3, setting[1], setting[2]);
        Calls.ask(hall, "player", 5, setting[3], setting[4]);
        for (int kind = 0; kind < 4; kind++) {
            int at = 5 + 3 * kind;
            Calls.ask(hall, "kind", kind, setting[at], setting[at + 1], setting[at + 2]);
        }
    }

    public static void main(String[] args) {
        Check check = new Check("AgainstPlainTest");
        for (String theme : THEMES) {
            runTheme(check, theme);
        }
        runAsAtFirst(check);
        runLeaning(check);
        runRallies(check);
        check.finish();
    }
}
