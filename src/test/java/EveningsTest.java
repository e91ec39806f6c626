/** Promises 26 to 34: courts, come, leave, against, round, played, had, of, count. */
public final class EveningsTest {
    private static final Check CHECK = new Check("EveningsTest");

    public static void main(String[] args) {
        numbers();
        comeAndLeave();
        noGames();
        waiting();
        notTooOften();
        evenGames();
        firstOfEquals();
        counts();
        CHECK.finish();
    }

    private static void rounds(FeatherHall x, String when, int... want) {
        for (int what = 0; what < want.length; what++) {
            CHECK.due(when + ", round(" + what + ")", x.round(what), want[what]);
        }
    }

    private static void mates(FeatherHall x, String when, int... want) {
        for (int player = 0; player < want.length; player++) {
            CHECK.due(when + ", against(" + player + ")", x.against(player), want[player]);
        }
    }

    private static FeatherHall all(int... grades) {
        FeatherHall x = new FeatherHall();
        for (int player = 0; player < grades.length; player++) {
            x.come(player, grades[player]);
        }
        return x;
    }

    private static void numbers() {
        FeatherHall x = new FeatherHall();
        CHECK.due("COURTS were", x.courts(4), 2);
        CHECK.due("COURTS were", x.courts(1), 4);
        CHECK.due("0", x.courts(0), FeatherHall.OUTSIDE);
        CHECK.due("5", x.courts(5), FeatherHall.OUTSIDE);
        CHECK.due("stays", x.courts(2), 1);
        CHECK.due("no PLAYER", x.against(-1), FeatherHall.UNKNOWN);
        CHECK.due("no PLAYER", x.against(8), FeatherHall.UNKNOWN);
        CHECK.due("round -1", x.round(-1), FeatherHall.OUTSIDE);
        CHECK.due("round 4", x.round(4), FeatherHall.OUTSIDE);
        int[][] unknown = {{-1, 0}, {8, 0}, {0, -1}, {0, 8}, {3, 3}};
        for (int[] v : unknown) {
            CHECK.due("had UNKNOWN", x.had(v[0], v[1]), FeatherHall.UNKNOWN);
        }
        CHECK.due("had at first", x.had(0, 7), 0);
        CHECK.due("of: no PLAYER", x.of(-1, 0), FeatherHall.UNKNOWN);
        CHECK.due("of: no PLAYER", x.of(8, 5), FeatherHall.UNKNOWN);
        CHECK.due("of -1", x.of(0, -1), FeatherHall.OUTSIDE);
        CHECK.due("of 5", x.of(0, 5), FeatherHall.OUTSIDE);
        CHECK.due("count -1", x.count(-1), FeatherHall.OUTSIDE);
        CHECK.due("count 5", x.count(5), FeatherHall.OUTSIDE);
    }

    private static void comeAndLeave() {
        FeatherHall x = new FeatherHall();
        CHECK.due("one", x.come(7, 0), 1);
        CHECK.due("two", x.come(0, 99), 2);
        CHECK.due("GRADE", x.of(7, 3), 0);
        CHECK.due("GRADE", x.of(0, 3), 99);
        CHECK.due("WAITED", x.of(0, 2), 0);
        CHECK.due("is THERE", x.come(0, 5), FeatherHall.NOT);
        CHECK.due("OUTSIDE comes first", x.come(0, 100), FeatherHall.OUTSIDE);
        CHECK.due("GRADE -1", x.come(1, -1), FeatherHall.OUTSIDE);
        CHECK.due("UNKNOWN comes first", x.come(8, 100), FeatherHall.UNKNOWN);
        CHECK.due("no PLAYER", x.come(-1, 0), FeatherHall.UNKNOWN);
        CHECK.due("refused, nothing changed", x.of(0, 3), 99);
        CHECK.due("THERE", x.count(2), 2);
        CHECK.due("goes", x.leave(0), 1);
        CHECK.due("not THERE", x.leave(0), FeatherHall.NOT);
        CHECK.due("no PLAYER", x.leave(8), FeatherHall.UNKNOWN);
        CHECK.due("no PLAYER", x.leave(-1), FeatherHall.UNKNOWN);
        CHECK.due("no GRADE", x.of(0, 3), FeatherHall.NONE);
        CHECK.due("comes again with another", x.come(0, 5), 2);
        CHECK.due("that GRADE", x.of(0, 3), 5);
    }

    private static void noGames() {
        FeatherHall x = new FeatherHall();
        rounds(x, "no one", 0, 0, 0, 0);
        mates(x, "no one", -1, -1, -1, -1, -1, -1, -1, -1);
        CHECK.due("a ROUND without GAMES", x.played(), 0);
        x.come(3, 50);
        rounds(x, "one", 0, 0, 0, 0);
        CHECK.due("a ROUND without GAMES", x.played(), 0);
        CHECK.due("it WAITED", x.of(3, 2), 1);
        CHECK.due("both are ROUNDS", x.count(3), 2);
        CHECK.due("it goes", x.leave(3), 0);
        CHECK.due("a ROUND without it", x.played(), 0);
        x.come(3, 50);
        CHECK.due("WAITED 0 when it comes", x.of(3, 2), 0);
    }

    private static void waiting() {
        FeatherHall x = all(10, 10, 10, 90, 60);
        x.courts(1);
        mates(x, "first", 1, 0, -1, -1, -1, -1, -1, -1);
        CHECK.due("one GAME", x.played(), 1);
        int[] waited = {0, 0, 1, 1, 1};
        for (int player = 0; player < 5; player++) {
            CHECK.due("WAITED", x.of(player, 2), waited[player]);
        }
        rounds(x, "those who WAITED", 1, 2, 0, 30);
        mates(x, "those who WAITED, though uneven", -1, -1, -1, 4, 3, -1, -1, -1);
        x.played();
        CHECK.due("WAITED 2", x.of(2, 2), 2);
        rounds(x, "2 and another that WAITED", 1, 3, 0, 0);
        mates(x, "the first of them", 2, -1, 0, -1, -1, -1, -1, -1);
        x.leave(2);
        x.come(2, 10);
        CHECK.due("came anew: WAITED 0", x.of(2, 2), 0);
        mates(x, "again 0 and 1 WAITED most", 1, 0, -1, -1, -1, -1, -1, -1);
        rounds(x, "they met before", 1, 2, 1, 0);
    }

    private static void notTooOften() {
        FeatherHall x = all(10, 20, 80, 90);
        int[][] mates = {{1, 0, 3, 2}, {2, 3, 0, 1}, {3, 2, 1, 0}};
        int[] uneven = {20, 140, 140};
        for (int round = 0; round < 6; round++) {
            rounds(x, "round " + round, 2, 0, 2 * (round / 3), uneven[round % 3]);
            mates(x, "round " + round, mates[round % 3]);
            CHECK.due("played", x.played(), 2);
        }
        CHECK.due("had", x.had(0, 3), 2);
        CHECK.due("had, turned about", x.had(3, 0), 2);
        CHECK.due("GAMES it had", x.of(1, 4), 6);
        x.leave(1);
        CHECK.due("GAMES stay when it goes", x.of(1, 4), 6);
        CHECK.due("and those of both", x.had(1, 2), 2);
        mates(x, "not THERE: no one", -1, -1, 3, 2);
    }

    private static void evenGames() {
        FeatherHall x = all(0, 99, 50, 1, 98, 51, 20, 30);
        x.courts(4);
        rounds(x, "all play", 4, 0, 0, 1 + 1 + 1 + 10);
        mates(x, "all play", 3, 4, 5, 0, 1, 2, 7, 6);
        x.courts(3);
        rounds(x, "three COURTS", 3, 0, 0, 3);
        mates(x, "three COURTS", 3, 4, 5, 0, 1, 2, -1, -1);
    }

    private static void firstOfEquals() {
        FeatherHall x = all(5, 5, 5, 5, 5, 5, 5, 5);
        mates(x, "all alike, two COURTS", 1, 0, 3, 2, -1, -1, -1, -1);
        x.courts(4);
        mates(x, "all alike, four COURTS", 1, 0, 3, 2, 5, 4, 7, 6);
        x.courts(1);
        mates(x, "all alike, one COURT", 1, 0, -1, -1, -1, -1, -1, -1);
        FeatherHall y = all(9, 1, 1, 9, 4);
        y.courts(1);
        mates(y, "0 and 3 ahead of 1 and 2", 3, -1, -1, 0, -1);
        y.courts(2);
        mates(y, "both", 3, 2, 1, 0, -1);
    }

    private static void counts() {
        FeatherHall x = all(1, 2, 3);
        x.note(0, 0, false);
        x.note(1, -1, false);
        x.plan(1);
        x.plan(2);
        x.plan(3);
        x.played();
        int[] want = {2, 1, 3, 1, 3};
        for (int what = 0; what < 5; what++) {
            CHECK.due("count(" + what + ")", x.count(what), want[what]);
        }
    }
}
