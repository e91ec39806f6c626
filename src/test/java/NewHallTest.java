/** Promise 1, "All as at first; no one is THERE": a new hall, beside others that are used. */
public final class NewHallTest {
    private static final Check CHECK = new Check("NewHallTest");

    public static void main(String[] args) {
        asTold();
        nothingThere();
        besideOthers();
        CHECK.finish();
    }

    /** What is at first is what the document tells: to set it so changes nothing. */
    private static void asTold() {
        FeatherHall x = new FeatherHall();
        int[] speeds = {60, 20, 30, 40};
        int[] drags = {30, 5, 20, 15};
        int[] meets = {2, 3, 2, 3};
        int[] wears = {3, 1, 1, 2};
        for (int kind = 0; kind < 4; kind++) {
            CHECK.due("kind", x.kind(kind, speeds[kind], drags[kind], meets[kind]), 1);
            CHECK.due("wear", x.wear(kind, wears[kind]), wears[kind]);
        }
        for (int player = 0; player < 8; player++) {
            CHECK.due("player", x.player(player, 10, 1), 1);
            CHECK.due("run", x.run(player, 0), 0);
        }
        CHECK.due("broken", x.broken(0), 0);
        CHECK.due("PRICE", x.cost(0, 20), 20);
        CHECK.due("LOSS", x.cost(1, 2), 2);
        CHECK.due("COURTS", x.courts(2), 2);
        CHECK.due("PLAN", x.unplan(), 0);
        CHECK.due("POINTS", x.again(), 0);
        Look.same(CHECK, "as told is as at first", x, new FeatherHall());
    }

    private static void nothingThere() {
        FeatherHall x = new FeatherHall();
        for (int what = 0; what <= 4; what++) {
            CHECK.due("count(" + what + ")", x.count(what), 0);
        }
        for (int what = 0; what <= 5; what++) {
            CHECK.due("three(" + what + ")", x.three(what), 0);
        }
        for (int what = 0; what <= 3; what++) {
            CHECK.due("round(" + what + ")", x.round(what), 0);
        }
        for (int player = 0; player < 8; player++) {
            int[] of = {10, 0, FeatherHall.NONE, FeatherHall.NONE, 0};
            for (int what = 0; what <= 4; what++) {
                CHECK.due(Calls.text("of", player, what), x.of(player, what), of[what]);
            }
            CHECK.due("against(" + player + ")", x.against(player), FeatherHall.NONE);
            CHECK.due("leave(" + player + ")", x.leave(player), FeatherHall.NOT);
        }
        CHECK.due("costs", x.costs(1), FeatherHall.NOT);
        CHECK.due("change", x.change(), FeatherHall.NOT);
        CHECK.due("strongest", x.strongest(), FeatherHall.NONE);
    }

    /** Halls share nothing: what is done in one is not seen in another, made before or after. */
    private static void besideOthers() {
        FeatherHall before = new FeatherHall();
        FeatherHall busy = Halls.in(Halls.BUSY);
        FeatherHall full = Halls.in(Halls.FULL);
        FeatherHall after = new FeatherHall();
        Look.same(CHECK, "made before and after", before, after);
        Look.same(CHECK, "busy beside others", busy, Halls.in(Halls.BUSY));
        Look.same(CHECK, "full beside others", full, Halls.in(Halls.FULL));
    }
}
