/** Promises 20 to 25: cost, wear, plan, unplan, costs, change. */
public final class FeathersTest {
    private static final Check CHECK = new Check("FeathersTest");

    public static void main(String[] args) {
        numbers();
        plans();
        sums();
        changes();
        CHECK.finish();
    }

    private static void numbers() {
        FeatherHall x = new FeatherHall();
        CHECK.due("PRICE was", x.cost(0, 999), 20);
        CHECK.due("PRICE was", x.cost(0, 1), 999);
        CHECK.due("LOSS was", x.cost(1, 99), 2);
        CHECK.due("LOSS was", x.cost(1, 0), 99);
        int[][] outside = {{0, 0}, {0, 1000}, {1, -1}, {1, 100}, {-1, 1}, {2, 1}};
        for (int[] v : outside) {
            CHECK.due("cost OUTSIDE", x.cost(v[0], v[1]), FeatherHall.OUTSIDE);
        }
        CHECK.due("PRICE stays", x.cost(0, 1), 1);
        CHECK.due("LOSS stays", x.cost(1, 0), 0);
        int[] wears = {3, 1, 1, 2};
        for (int kind = 0; kind < 4; kind++) {
            CHECK.due("WEAR at first", x.wear(kind, 9), wears[kind]);
            CHECK.due("WEAR then", x.wear(kind, 0), 9);
        }
        CHECK.due("no KIND", x.wear(-1, 0), FeatherHall.UNKNOWN);
        CHECK.due("no KIND", x.wear(4, 10), FeatherHall.UNKNOWN);
        CHECK.due("WEAR -1", x.wear(0, -1), FeatherHall.OUTSIDE);
        CHECK.due("WEAR 10", x.wear(0, 10), FeatherHall.OUTSIDE);
        CHECK.due("WEAR stays", x.wear(0, 1), 0);
    }

    private static void plans() {
        FeatherHall x = new FeatherHall();
        CHECK.due("empty", x.unplan(), 0);
        for (int many = 1; many <= 30; many++) {
            CHECK.due("plan", x.plan(many % 4), many);
        }
        CHECK.due("31", x.plan(0), FeatherHall.FULL);
        CHECK.due("UNKNOWN comes first", x.plan(4), FeatherHall.UNKNOWN);
        CHECK.due("no KIND", x.plan(-1), FeatherHall.UNKNOWN);
        CHECK.due("KINDS of the PLAN", x.count(4), 30);
        CHECK.due("had", x.unplan(), 30);
        CHECK.due("empty then", x.count(4), 0);
        CHECK.due("costs: empty", x.costs(1), FeatherHall.NOT);
        CHECK.due("costs: OUTSIDE comes first", x.costs(121), FeatherHall.OUTSIDE);
        CHECK.due("costs: OUTSIDE comes first", x.costs(0), FeatherHall.OUTSIDE);
        CHECK.due("change: empty", x.change(), FeatherHall.NOT);
        CHECK.due("a new PLAN", x.plan(3), 1);
    }

    private static void sums() {
        FeatherHall x = new FeatherHall();
        x.plan(0);
        x.plan(3);
        // WEAR ahead of the strikes: 0 3 5 8 10 13 15 18 20, BROKEN 0 0 0 0 1 1 1 1 2, each 2.
        int[] want = {20, 20, 20, 20, 22, 24, 26, 28, 32};
        for (int s = 1; s <= 9; s++) {
            CHECK.due("costs(" + s + ")", x.costs(s), want[s - 1]);
        }
        x.broken(8);
        CHECK.due("THE FEATHER on court is another", x.costs(1), 20);
        x.wear(0, 9);
        x.wear(3, 9);
        // WEAR is 9 a strike: BROKEN 8 from the tenth on (81), and no more.
        CHECK.due("8 at most", x.costs(120) - x.costs(119), 16);
        CHECK.due("8 from the tenth", x.costs(10) - x.costs(9), 16);
        CHECK.due("7 ahead of it", x.costs(9) - x.costs(8), 14);
        CHECK.due("costs(0)", x.costs(0), FeatherHall.OUTSIDE);
        CHECK.due("costs(121)", x.costs(121), FeatherHall.OUTSIDE);
    }

    private static void changes() {
        FeatherHall x = new FeatherHall();
        x.plan(0);
        // Sums 20 20 20 20 22 24 26 30 34: by strike least behind 7 (26 by 7).
        CHECK.due("least cost by strike", x.change(), 7);
        x.cost(1, 0);
        CHECK.due("without LOSS the longest", x.change(), 120);
        x.cost(1, 99);
        x.cost(0, 1);
        CHECK.due("a cheap one: ahead of the first LOSS", x.change(), 4);
        x.cost(0, 999);
        CHECK.due("a dear one", x.costs(5), 999 + 99);
        // PRICE 10, LOSS 5, WEAR 5: sums 10 10 15 20 30: 5 by strike behind 2, 3 and 4.
        FeatherHall y = new FeatherHall();
        y.wear(1, 5);
        y.cost(0, 10);
        y.cost(1, 5);
        y.plan(1);
        CHECK.due("3", y.costs(3), 15);
        CHECK.due("4", y.costs(4), 20);
        CHECK.due("5", y.costs(5), 30);
        CHECK.due("of several the least", y.change(), 2);
    }
}
