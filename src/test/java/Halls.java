/** Halls in states that edges need: busy in all its parts, full, with THREE that are OVER, and just new. */
final class Halls {
    static final int NEW = 0, BUSY = 1, FULL = 2, OVER = 3, STATES = 4;

    private Halls() {
    }

    static FeatherHall in(int state) {
        FeatherHall x = new FeatherHall();
        if (state == BUSY) {
            busy(x);
        }
        if (state == FULL) {
            full(x);
        }
        if (state == OVER) {
            over(x);
        }
        return x;
    }

    /** Nothing is as at first, so that whatever a call puts back to it can be seen. */
    private static void busy(FeatherHall x) {
        for (int kind = 0; kind < 4; kind++) {
            x.kind(kind, 21 + 7 * kind, 11 + 9 * kind, 5 - kind);
            x.wear(kind, 4 + kind);
            x.plan(3 - kind);
        }
        x.broken(3);
        x.cost(0, 77);
        x.cost(1, 5);
        for (int player = 0; player < 8; player++) {
            x.player(player, 6 + player, player % 3);
            x.run(player, 11 * player + 9);
        }
        int[] told = {0, 1, 1, 2, 0, 1};
        for (int how : told) {
            x.rally(how);
        }
        for (int note = 0; note < 24; note++) {
            x.note(note % 4, note % 5 == 4 ? -1 : note % 4, false);
        }
        x.courts(3);
        for (int player = 0; player < 7; player++) {
            x.come(player, 13 * player % 50);
        }
        x.played();
        x.played();
        x.leave(2);
        x.played();
    }

    /** As many NOTES, KINDS of the PLAN and PLAYERS THERE as there can be. */
    private static void full(FeatherHall x) {
        for (int note = 0; note < 60; note++) {
            x.note(note % 4, note / 15, note % 2 == 1);
        }
        for (int kind = 0; kind < 30; kind++) {
            x.plan(kind % 4);
        }
        for (int player = 0; player < 8; player++) {
            x.come(player, 99 - player);
            x.run(player, 100);
        }
        x.courts(4);
        x.played();
    }

    private static void over(FeatherHall x) {
        for (int point = 0; point < 15; point++) {
            x.rally(0);
        }
    }
}
