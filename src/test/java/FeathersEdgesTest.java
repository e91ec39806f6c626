/** Section 5 and promises 20 to 25, each sentence that names an edge: at the edge and one beyond it. */
public final class FeathersEdgesTest {
    private static final Check CHECK = new Check("FeathersEdgesTest");

    public static void main(String[] args) {
        price();
        loss();
        whatOfCost();
        wearOfKinds();
        wearAtFirst();
        thirtyAtMost();
        unplanned();
        emptyPlan();
        overAndOver();
        fromItsBeginning();
        behindEachStrike();
        eightAtMost();
        aheadOfItsOwnWear();
        costOfOne();
        strikesOfOne();
        changeAtTheEnds();
        changeOfSeveral();
        dearest();
        brokenOnCourt();
        CHECK.finish();
    }

    /** A PLAN with PRICE, LOSS and WEAR of KINDS 0 .. 3. */
    private static FeatherHall planned(int price, int loss, int[] wears, int... kinds) {
        FeatherHall x = new FeatherHall();
        x.cost(0, price);
        x.cost(1, loss);
        for (int kind = 0; kind < 4; kind++) {
            x.wear(kind, wears[kind]);
        }
        for (int kind : kinds) {
            x.plan(kind);
        }
        return x;
    }

    /** A PLAN of 30 strikes, of which one, told by its place 1 .. 30, wears. */
    private static FeatherHall thirty(int price, int loss, int wear, int place) {
        FeatherHall x = planned(price, loss, new int[] {0, wear, 0, 0});
        for (int strike = 1; strike <= 30; strike++) {
            x.plan(strike == place ? 1 : 0);
        }
        return x;
    }

    /** "A FEATHER costs PRICE (1 .. 999; 20 at first)." */
    private static void price() {
        FeatherHall x = new FeatherHall();
        x.plan(0);
        CHECK.due("at first", x.costs(1), 20);
        CHECK.due("PRICE 0", x.cost(0, 0), FeatherHall.OUTSIDE);
        CHECK.due("PRICE 1000", x.cost(0, 1000), FeatherHall.OUTSIDE);
        CHECK.due("still 20", x.costs(1), 20);
        CHECK.due("PRICE 1, was 20", x.cost(0, 1), 20);
        CHECK.due("costs it", x.costs(1), 1);
        CHECK.due("PRICE 0", x.cost(0, 0), FeatherHall.OUTSIDE);
        CHECK.due("PRICE -1", x.cost(0, -1), FeatherHall.OUTSIDE);
        CHECK.due("still 1", x.costs(1), 1);
        CHECK.due("PRICE 999, was 1", x.cost(0, 999), 1);
        CHECK.due("costs it", x.costs(1), 999);
        CHECK.due("PRICE 1000", x.cost(0, 1000), FeatherHall.OUTSIDE);
        CHECK.due("still 999", x.costs(1), 999);
        CHECK.due("the same, was 999", x.cost(0, 999), 999);
    }

    /** "LOSS (0 .. 99; 2 at first) for each BROKEN". */
    private static void loss() {
        // WEAR 5: the third strike is the first with BROKEN 1.
        FeatherHall x = new FeatherHall();
        x.wear(0, 5);
        x.plan(0);
        CHECK.due("at first", x.costs(3), 22);
        CHECK.due("LOSS -1", x.cost(1, -1), FeatherHall.OUTSIDE);
        CHECK.due("LOSS 100", x.cost(1, 100), FeatherHall.OUTSIDE);
        CHECK.due("still 2", x.costs(3), 22);
        CHECK.due("LOSS 0, was 2", x.cost(1, 0), 2);
        CHECK.due("none", x.costs(3), 20);
        CHECK.due("LOSS -1", x.cost(1, -1), FeatherHall.OUTSIDE);
        CHECK.due("still none", x.costs(3), 20);
        CHECK.due("LOSS 99, was 0", x.cost(1, 99), 0);
        CHECK.due("costs it", x.costs(3), 119);
        CHECK.due("LOSS 100", x.cost(1, 100), FeatherHall.OUTSIDE);
        CHECK.due("LOSS as much as PRICE may be", x.cost(1, 999), FeatherHall.OUTSIDE);
        CHECK.due("still 99", x.costs(3), 119);
        CHECK.due("PRICE was not touched", x.cost(0, 20), 20);
    }

    /** "PRICE (what 0), LOSS (1)": OUTSIDE beyond. */
    private static void whatOfCost() {
        FeatherHall x = new FeatherHall();
        int[] values = {0, 1, 50, 99, 999};
        for (int value : values) {
            CHECK.due("what -1", x.cost(-1, value), FeatherHall.OUTSIDE);
            CHECK.due("what 2", x.cost(2, value), FeatherHall.OUTSIDE);
        }
        CHECK.due("PRICE was", x.cost(0, 50), 20);
        CHECK.due("LOSS was", x.cost(1, 60), 2);
        CHECK.due("PRICE was", x.cost(0, 50), 50);
        CHECK.due("LOSS was", x.cost(1, 60), 60);
    }

    /** "WEAR of strikes of a KIND is 0 .. 9". */
    private static void wearOfKinds() {
        FeatherHall x = new FeatherHall();
        for (int kind = 0; kind < 4; kind++) {
            x.wear(kind, 0);
            CHECK.due("WEAR -1", x.wear(kind, -1), FeatherHall.OUTSIDE);
            CHECK.due("WEAR 9, was 0", x.wear(kind, 9), 0);
            CHECK.due("WEAR 10", x.wear(kind, 10), FeatherHall.OUTSIDE);
            CHECK.due("WEAR 0, was 9", x.wear(kind, 0), 9);
        }
        int[] values = {-1, 0, 9, 10};
        for (int value : values) {
            CHECK.due("KIND -1", x.wear(-1, value), FeatherHall.UNKNOWN);
            CHECK.due("KIND 4", x.wear(4, value), FeatherHall.UNKNOWN);
        }
        for (int kind = 0; kind < 4; kind++) {
            CHECK.due("still 0", x.wear(kind, 1), 0);
        }
    }

    /** "(3, 1, 1, 2 at first)". */
    private static void wearAtFirst() {
        int[] wears = {3, 1, 1, 2};
        // 10 WEAR: behind 4, 10, 10 and 5 strikes, so that the one after them is the first that costs 2.
        int[] first = {5, 11, 11, 6};
        FeatherHall x = new FeatherHall();
        for (int kind = 0; kind < 4; kind++) {
            FeatherHall y = new FeatherHall();
            y.plan(kind);
            CHECK.due("KIND " + kind + " costs nothing yet", y.costs(first[kind] - 1), 20);
            CHECK.due("KIND " + kind + " costs", y.costs(first[kind]), 22);
            CHECK.due("KIND " + kind, x.wear(kind, 5), wears[kind]);
        }
    }

    /** "A PLAN of KINDS (30 at most)": "FULL". */
    private static void thirtyAtMost() {
        FeatherHall x = planned(1, 99, new int[] {0, 0, 0, 9});
        for (int many = 1; many <= 30; many++) {
            CHECK.due("plan " + many, x.plan(0), many);
            CHECK.due("count " + many, x.count(4), many);
        }
        for (int kind = 0; kind < 4; kind++) {
            CHECK.due("31", x.plan(kind), FeatherHall.FULL);
        }
        CHECK.due("still 30", x.count(4), 30);
        CHECK.due("none of KIND 3", x.costs(120), 1);
        CHECK.due("UNKNOWN comes first", x.plan(-1), FeatherHall.UNKNOWN);
        CHECK.due("UNKNOWN comes first", x.plan(4), FeatherHall.UNKNOWN);
        CHECK.due("had 30", x.unplan(), 30);
        CHECK.due("room again", x.plan(3), 1);
        CHECK.due("KIND -1", x.plan(-1), FeatherHall.UNKNOWN);
        CHECK.due("KIND 4", x.plan(4), FeatherHall.UNKNOWN);
        CHECK.due("still 1", x.count(4), 1);
        FeatherHall y = thirty(20, 2, 0, 30);
        CHECK.due("30 by another way", y.count(4), 30);
        CHECK.due("FULL", y.plan(1), FeatherHall.FULL);
    }

    /** "The PLAN is empty: how many it had." */
    private static void unplanned() {
        FeatherHall x = new FeatherHall();
        CHECK.due("had none", x.unplan(), 0);
        x.plan(3);
        CHECK.due("had 1", x.unplan(), 1);
        CHECK.due("has none", x.unplan(), 0);
        CHECK.due("counts none", x.count(4), 0);
        x.wear(1, 5);
        x.wear(3, 0);
        x.plan(1);
        CHECK.due("nothing of the old PLAN", x.costs(3), 22);
        CHECK.due("PRICE stays", x.cost(0, 30), 20);
    }

    /** "NOT: the PLAN is empty": and OUTSIDE comes first. */
    private static void emptyPlan() {
        FeatherHall x = new FeatherHall();
        for (int time = 0; time < 2; time++) {
            CHECK.due("costs(0)", x.costs(0), FeatherHall.OUTSIDE);
            CHECK.due("costs(1)", x.costs(1), FeatherHall.NOT);
            CHECK.due("costs(120)", x.costs(120), FeatherHall.NOT);
            CHECK.due("costs(121)", x.costs(121), FeatherHall.OUTSIDE);
            CHECK.due("change", x.change(), FeatherHall.NOT);
            x.plan(0);
            CHECK.due("costs(1) with one", x.costs(1), 20);
            CHECK.holds("change with one", x.change() > 0);
            x.unplan();
        }
    }

    /** "Is struck over and over": a PLAN of one, of two, of thirty. */
    private static void overAndOver() {
        int[] wears = {5, 0, 0, 0};
        CHECK.due("one: 5 10", planned(1, 1, wears, 0).costs(3), 2);
        CHECK.due("two: 5 5 10", planned(1, 1, wears, 0, 1).costs(3), 1);
        CHECK.due("two: 5 5 10", planned(1, 1, wears, 0, 1).costs(4), 2);
        CHECK.due("two: 0 5 5 10", planned(1, 1, wears, 1, 0).costs(4), 1);
        CHECK.due("two: 0 5 5 10", planned(1, 1, wears, 1, 0).costs(5), 2);
        // WEAR 5 in the first of 30: 10 behind strike 31, so strike 32 costs.
        CHECK.due("thirty: ahead of it", thirty(1, 1, 5, 1).costs(31), 1);
        CHECK.due("thirty: behind it", thirty(1, 1, 5, 1).costs(32), 2);
        // WEAR 5 in the last of 30: 10 behind strike 60.
        CHECK.due("thirty: the last", thirty(1, 1, 5, 30).costs(60), 1);
        CHECK.due("thirty: behind the last", thirty(1, 1, 5, 30).costs(61), 2);
    }

    /** "From its beginning": a FEATHER that is new starts with the first strike, whatever was asked before. */
    private static void fromItsBeginning() {
        FeatherHall x = planned(1, 1, new int[] {9, 0, 0, 1}, 0, 1, 3);
        // 9 9 10 19 19 20 ..: strikes 4, 5 and 6 cost 1 each, 7 costs 2.
        int[] want = {1, 1, 1, 2, 3, 4, 6};
        for (int s = 7; s >= 1; s--) {
            CHECK.due("costs(" + s + ")", x.costs(s), want[s - 1]);
        }
        for (int s = 1; s <= 7; s++) {
            CHECK.due("costs(" + s + ") again", x.costs(s), want[s - 1]);
        }
    }

    /** "Behind each strike WEAR is more; BROKEN is WEAR by 10, cut": 9 is none, 10 is one, 19 is one, 20 two. */
    private static void behindEachStrike() {
        int[] wears = {9, 1, 0, 2};
        CHECK.due("9", planned(1, 1, wears, 0, 2, 2, 2).costs(4), 1);
        CHECK.due("9 10", planned(1, 1, wears, 0, 1, 2, 2).costs(3), 2);
        CHECK.due("9 18", planned(1, 1, wears, 0, 0, 2, 2).costs(3), 2);
        CHECK.due("9 18 19", planned(1, 1, wears, 0, 0, 1, 2).costs(4), 3);
        CHECK.due("9 18 20", planned(1, 1, wears, 0, 0, 3, 2).costs(4), 4);
        CHECK.due("no WEAR at all", planned(1, 99, new int[4], 0, 1, 2, 3).costs(120), 1);
    }

    /** "8 at most". */
    private static void eightAtMost() {
        FeatherHall x = planned(1, 1, new int[] {9, 8, 7, 1}, 0);
        // 9 in each: 72 ahead of strike 9, 81 of 10, 90 of 11.
        int[] broken = {0, 0, 1, 2, 3, 4, 5, 6, 7, 8, 8, 8};
        int sum = 1;
        for (int s = 1; s <= 12; s++) {
            sum += broken[s - 1];
            CHECK.due("costs(" + s + ")", x.costs(s), sum);
        }
        CHECK.due("in all later ones 8", x.costs(120), sum + 8 * 108);
        // 8 in each: just 80 ahead of strike 11. 79: 8 times 9 and once 7.
        FeatherHall y = planned(1, 1, new int[] {9, 8, 7, 1}, 1);
        CHECK.due("80 is 8", y.costs(11) - y.costs(10), 8);
        CHECK.due("88 is 8", y.costs(12) - y.costs(11), 8);
        CHECK.due("72 is 7", y.costs(10) - y.costs(9), 7);
        FeatherHall z = planned(1, 1, new int[] {9, 8, 7, 1}, 0, 0, 0, 0, 0, 0, 0, 0, 2, 3);
        CHECK.due("79 is 7", z.costs(10) - z.costs(9), 7);
        CHECK.due("80 is 8", z.costs(11) - z.costs(10), 8);
    }

    /** "A strike (ahead of its own WEAR) costs LOSS (..) for each BROKEN". */
    private static void aheadOfItsOwnWear() {
        FeatherHall x = planned(1, 99, new int[] {9, 9, 9, 9}, 0, 1);
        CHECK.due("the first costs none", x.costs(1), 1);
        CHECK.due("the second costs none (9)", x.costs(2), 1);
        CHECK.due("the third costs one (18)", x.costs(3), 100);
    }

    /** "CHANGED behind s strikes it costs PRICE and all these of its s strikes". */
    private static void costOfOne() {
        for (int price = 1; price <= 999; price += 499) {
            FeatherHall x = planned(price, 99, new int[] {9, 9, 9, 9}, 3);
            CHECK.due("one strike: PRICE", x.costs(1), price);
        }
    }

    /** "Behind s strikes (1 .. 120)". */
    private static void strikesOfOne() {
        FeatherHall x = planned(7, 1, new int[] {1, 0, 0, 0}, 0);
        int[] beyond = {0, -1, 121, Integer.MIN_VALUE, Integer.MAX_VALUE};
        for (int s : beyond) {
            CHECK.due("costs(" + s + ")", x.costs(s), FeatherHall.OUTSIDE);
        }
        CHECK.due("costs(1)", x.costs(1), 7);
        // BROKEN 0 .. 7 ten times each, then 8: 280 and 40 times 8.
        CHECK.due("costs(119)", x.costs(119), 7 + 280 + 39 * 8);
        CHECK.due("costs(120)", x.costs(120), 7 + 280 + 40 * 8);
    }

    /** "BEST CHANGE: s 1 .. 120 with the least cost by strike". */
    private static void changeAtTheEnds() {
        // The second strike never costs (WEAR 9 at most), so 2 is the soonest.
        CHECK.due("the soonest", planned(1, 99, new int[] {9, 0, 0, 0}, 0).change(), 2);
        CHECK.due("no LOSS: the latest", planned(1, 0, new int[] {9, 9, 9, 9}, 0).change(), 120);
        CHECK.due("no WEAR: the latest", planned(1, 99, new int[4], 0).change(), 120);
        // WEAR 3 once in 30: 12 behind strike 119, if it is the 29th; behind 120, if it is the 30th.
        CHECK.due("strike 120 costs too much", thirty(20, 99, 3, 29).change(), 119);
        CHECK.due("strike 121 would", thirty(20, 99, 3, 30).change(), 120);
        CHECK.due("not 118", thirty(20, 99, 3, 28).change(), 118);
    }

    /** "Of several the least." */
    private static void changeOfSeveral() {
        // PRICE 44 and 28 of nine strikes are 72, 8 by strike; each later one costs 8 as well.
        int[] wears = {9, 0, 0, 0};
        FeatherHall x = planned(44, 1, wears, 0);
        CHECK.due("costs(9)", x.costs(9), 9 * 8);
        CHECK.due("costs(120)", x.costs(120), 120 * 8);
        CHECK.due("9 of 9 .. 120", x.change(), 9);
        CHECK.due("one dearer: the latest", planned(45, 1, wears, 0).change(), 120);
        CHECK.due("one cheaper: 9 alone", planned(43, 1, wears, 0).change(), 9);
        // PRICE 119 and LOSS 1 in strike 120: 1 by strike behind 119 and behind 120.
        CHECK.due("119 of 119 and 120", thirty(119, 1, 3, 29).change(), 119);
        CHECK.due("one dearer", thirty(120, 1, 3, 29).change(), 120);
        CHECK.due("one cheaper", thirty(118, 1, 3, 29).change(), 119);
    }

    /** All at its most: 999 and 99 for each BROKEN. */
    private static void dearest() {
        FeatherHall x = planned(999, 99, new int[] {9, 9, 9, 9}, 0);
        CHECK.due("costs(120)", x.costs(120), 999 + 99 * (28 + 8 * 111));
        // 999 and 99 times 0 0 1 2 3 4 5: 999 + 1485 = 2484 behind 7 (354.9), 999 + 990 = 1989 behind 6 (331.5),
        // 999 + 594 = 1593 behind 5 (318.6), 999 + 297 = 1296 behind 4 (324).
        CHECK.due("change", x.change(), 5);
    }

    /** THE FEATHER of section 1 is not one of these: `broken` changes no cost, and no cost changes it. */
    private static void brokenOnCourt() {
        FeatherHall x = planned(44, 1, new int[] {9, 0, 0, 0}, 0);
        x.broken(8);
        CHECK.due("costs", x.costs(9), 72);
        CHECK.due("change", x.change(), 9);
        CHECK.due("BROKEN stays", x.broken(0), 8);
    }
}
