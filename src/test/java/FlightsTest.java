/** Promises 1 to 5: a new object's FLIGHTS, kind, broken, flight, over. */
public final class FlightsTest {
    private static final Check CHECK = new Check("FlightsTest");

    public static void main(String[] args) {
        newObject();
        kinds();
        brokenOnes();
        flights();
        overTheNet();
        CHECK.finish();
    }

    private static void newObject() {
        FeatherHall x = new FeatherHall();
        // 12 to 12: LENGTH 70; the KINDS go 60 42; 20 19 18 17; 30 24 19; 40 34.
        int[] landing = {2, 4, 3, 2};
        int[] firstMet = {1, 3, 2, 1};
        for (int kind = 0; kind < 4; kind++) {
            CHECK.due("landing at first, KIND " + kind, x.flight(kind, 12, 12, 0), landing[kind]);
            CHECK.due("MEET at first, KIND " + kind, x.flight(kind, 12, 12, 2), firstMet[kind]);
        }
        CHECK.due("no one is THERE", x.count(2), 0);
        CHECK.due("no NOTES", x.count(0), 0);
        CHECK.due("no HABITS TRIED", x.count(1), 0);
        CHECK.due("no ROUNDS", x.count(3), 0);
        CHECK.due("no PLAN", x.count(4), 0);
        CHECK.due("none BROKEN", x.broken(0), 0);
        CHECK.due("PRICE", x.cost(0, 1), 20);
        CHECK.due("LOSS", x.cost(1, 1), 2);
        CHECK.due("COURTS", x.courts(1), 2);
        for (int player = 0; player < 8; player++) {
            CHECK.due("STRIDE of " + player, x.of(player, 0), 10);
            CHECK.due("TIRED of " + player, x.of(player, 1), 0);
            CHECK.due("WAITED of " + player, x.of(player, 2), FeatherHall.NONE);
            CHECK.due("GRADE of " + player, x.of(player, 3), FeatherHall.NONE);
            CHECK.due("GAMES of " + player, x.of(player, 4), 0);
        }
        FeatherHall other = new FeatherHall();
        CHECK.due("another object is new too", other.broken(0), 0);
        CHECK.due("and has its own PRICE", other.cost(0, 1), 20);
    }

    private static void kinds() {
        FeatherHall x = new FeatherHall();
        CHECK.due("least of all", x.kind(0, 10, 0, 1), 1);
        CHECK.due("10 in each TICK", x.flight(0, 0, 12, 0), 4);
        CHECK.due("only where it LANDS", x.flight(0, 0, 12, 2), 4);
        CHECK.due("other KINDS stay", x.flight(1, 0, 12, 0), 3);
        CHECK.due("greatest of all", x.kind(3, 60, 60, 6), 1);
        CHECK.due("60 24", x.flight(3, 12, 15, 0), 3);
        CHECK.due("no KIND -1", x.kind(-1, 10, 0, 1), FeatherHall.UNKNOWN);
        CHECK.due("no KIND 4, also with wrong numbers", x.kind(4, 9, -1, 0), FeatherHall.UNKNOWN);
        CHECK.due("SPEED 9", x.kind(0, 9, 0, 1), FeatherHall.OUTSIDE);
        CHECK.due("SPEED 61", x.kind(0, 61, 0, 1), FeatherHall.OUTSIDE);
        CHECK.due("DRAG -1", x.kind(0, 60, -1, 1), FeatherHall.OUTSIDE);
        CHECK.due("DRAG 61", x.kind(0, 60, 61, 1), FeatherHall.OUTSIDE);
        CHECK.due("MEET 0", x.kind(0, 60, 0, 0), FeatherHall.OUTSIDE);
        CHECK.due("MEET 7", x.kind(0, 60, 0, 7), FeatherHall.OUTSIDE);
        CHECK.due("refused, nothing changed", x.flight(0, 0, 12, 0), 4);
        CHECK.due("a KIND asked before can change", x.kind(0, 20, 0, 1), 1);
        CHECK.due("and is another then", x.flight(0, 0, 12, 0), 2);
    }

    private static void brokenOnes() {
        FeatherHall x = new FeatherHall();
        CHECK.due("LENGTH 70 whole", x.flight(0, 12, 12, 1), 12);
        CHECK.due("8 at most", x.broken(9), FeatherHall.OUTSIDE);
        CHECK.due("0 at least", x.broken(-1), FeatherHall.OUTSIDE);
        CHECK.due("was 0", x.broken(8), 0);
        // WHOLE is 70 times 68 by 100: 47; 7 times 47 by 70 is 4, ROW 0 of the other side.
        CHECK.due("short when it is broken", x.flight(0, 12, 12, 1), 0);
        CHECK.due("and sooner down", x.flight(0, 12, 12, 0), 1);
        CHECK.due("was 8", x.broken(3), 8);
        // WHOLE is 70 times 88 by 100: 61, and KIND 3 goes 40, then 40 times 79 by 100: 31.
        CHECK.due("3 BROKEN: lands", x.flight(3, 12, 12, 0), 2);
        CHECK.due("3 BROKEN: where", x.flight(3, 12, 12, 1), 8);
        CHECK.due("was 3", x.broken(0), 3);
        CHECK.due("as at first", x.flight(0, 12, 12, 1), 12);
    }

    private static void flights() {
        FeatherHall x = new FeatherHall();
        CHECK.due("shortest", x.flight(0, 0, 0, 0), 1);
        CHECK.due("straight across", x.flight(0, 3, 3, 1), 3);
        x.kind(1, 10, 60, 6);
        // 10, 4, then 2 in each TICK.
        CHECK.due("2 at least", x.flight(1, 12, 15, 0), 38);
        CHECK.due("lands where it goes", x.flight(1, 12, 15, 1), 15);
        CHECK.due("the last 6 TICKS", x.flight(1, 12, 15, 2), 33);
        x.kind(2, 10, 0, 6);
        // G is 1, 2, 3, 4: over the net in TICK 4 alone.
        CHECK.due("not MET ahead of the net", x.flight(2, 12, 0, 2), 4);
        CHECK.due("right behind the net", x.flight(2, 12, 0, 1), 0);
        x.kind(3, 10, 0, 2);
        CHECK.due("over the net from the first TICK", x.flight(3, 0, 12, 0), 4);
        CHECK.due("but MET in the last two", x.flight(3, 0, 12, 2), 3);
        x.broken(8);
        CHECK.due("NET: a TICK there is", x.flight(0, 12, 0, 0), 1);
        CHECK.due("NET: no CELL", x.flight(0, 12, 0, 1), FeatherHall.NONE);
        CHECK.due("NET: not MET", x.flight(0, 12, 0, 2), FeatherHall.NONE);
        int[][] unknown = {{-1, 0, 0, 0}, {4, 0, 0, 9}, {0, -1, 0, 0}, {0, 16, 0, 0}, {0, 0, -1, 0}, {0, 0, 16, 3}};
        for (int[] v : unknown) {
            CHECK.due("no such KIND or CELL", x.flight(v[0], v[1], v[2], v[3]), FeatherHall.UNKNOWN);
        }
        CHECK.due("what -1", x.flight(0, 0, 0, -1), FeatherHall.OUTSIDE);
        CHECK.due("what 3", x.flight(0, 0, 0, 3), FeatherHall.OUTSIDE);
    }

    private static void overTheNet() {
        FeatherHall x = new FeatherHall();
        // KIND 1 goes 20 39 57 74 85 of LENGTH 85.
        int[] rightwards = {-1, -1, 2, 10, 15};
        int[] leftwards = {-1, -1, 1, 9, 12};
        for (int n = 1; n <= 5; n++) {
            CHECK.due("12 to 15 behind " + n, x.over(1, 12, 15, n), rightwards[n - 1]);
            CHECK.due("15 to 12 behind " + n, x.over(1, 15, 12, n), leftwards[n - 1]);
        }
        CHECK.due("behind landing", x.over(1, 12, 15, 6), 15);
        CHECK.due("long behind landing", x.over(1, 12, 15, 60), 15);
        CHECK.due("n 0", x.over(1, 12, 15, 0), FeatherHall.OUTSIDE);
        CHECK.due("n 61", x.over(1, 12, 15, 61), FeatherHall.OUTSIDE);
        int[][] unknown = {{-1, 0, 0, 1}, {4, 0, 0, 0}, {0, -1, 0, 1}, {0, 16, 0, 1}, {0, 0, -1, 1}, {0, 0, 16, 61}};
        for (int[] v : unknown) {
            CHECK.due("no such KIND or CELL", x.over(v[0], v[1], v[2], v[3]), FeatherHall.UNKNOWN);
        }
        x.broken(8);
        CHECK.due("NET, behind landing too", x.over(0, 12, 0, 60), FeatherHall.NONE);
    }
}
