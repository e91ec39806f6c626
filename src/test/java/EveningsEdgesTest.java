/** Section 6 and promises 26 to 34, each sentence that names an edge: at the edge and one beyond it. */
public final class EveningsEdgesTest {
    private static final Check CHECK = new Check("EveningsEdgesTest");

    public static void main(String[] args) {
        oneToFourCourts();
        gradesOfThoseThere();
        comesWhenThere();
        goesWhenNotThere();
        allEight();
        asManyGamesAsThereCanBe();
        noOneInTwo();
        noOneThere();
        oneThere();
        againstNoOne();
        waitedSinceItCame();
        waitedMostComesFirst();
        fewestGamesComeSecond();
        gamesHadTogether();
        leastDifferencesComeThird();
        firstByLeastPlayer();
        firstByTheOther();
        firstByTheNext();
        leastThatPlays();
        changedRound();
        playedCounts();
        hadByBoth();
        whatOfRound();
        whatOfPlayer();
        whatOfCount();
        manyRounds();
        CHECK.finish();
    }

    private static FeatherHall there(int courts, int... grades) {
        FeatherHall x = new FeatherHall();
        x.courts(courts);
        for (int player = 0; player < grades.length; player++) {
            x.come(player, grades[player]);
        }
        return x;
    }

    private static void rounds(String why, FeatherHall x, int... want) {
        for (int what = 0; what < want.length; what++) {
            CHECK.due(why + ", round(" + what + ")", x.round(what), want[what]);
        }
    }

    private static void mates(String why, FeatherHall x, int... want) {
        for (int player = 0; player < want.length; player++) {
            CHECK.due(why + ", against(" + player + ")", x.against(player), want[player]);
        }
    }

    private static void waited(String why, FeatherHall x, int... want) {
        for (int player = 0; player < want.length; player++) {
            CHECK.due(why + ", WAITED of " + player, x.of(player, 2), want[player]);
        }
    }

    /** "COURTS (1 .. 4; 2 at first)". */
    private static void oneToFourCourts() {
        FeatherHall x = there(2, 1, 1, 1, 1, 1, 1, 1, 1);
        CHECK.due("2 at first", new FeatherHall().courts(3), 2);
        CHECK.due("0", x.courts(0), FeatherHall.OUTSIDE);
        CHECK.due("still 2", x.round(0), 2);
        CHECK.due("1, was 2", x.courts(1), 2);
        CHECK.due("one GAME", x.round(0), 1);
        CHECK.due("0", x.courts(0), FeatherHall.OUTSIDE);
        CHECK.due("-1", x.courts(-1), FeatherHall.OUTSIDE);
        CHECK.due("4, was 1", x.courts(4), 1);
        CHECK.due("four GAMES", x.round(0), 4);
        CHECK.due("5", x.courts(5), FeatherHall.OUTSIDE);
        CHECK.due("still 4", x.round(0), 4);
        CHECK.due("the same, was 4", x.courts(4), 4);
    }

    /** "Each with a GRADE (0 .. 99)". */
    private static void gradesOfThoseThere() {
        FeatherHall x = new FeatherHall();
        CHECK.due("GRADE -1", x.come(0, -1), FeatherHall.OUTSIDE);
        CHECK.due("GRADE 100", x.come(0, 100), FeatherHall.OUTSIDE);
        CHECK.due("not THERE", x.of(0, 3), FeatherHall.NONE);
        CHECK.due("no one is", x.count(2), 0);
        CHECK.due("GRADE 0", x.come(0, 0), 1);
        CHECK.due("GRADE 99", x.come(7, 99), 2);
        CHECK.due("0", x.of(0, 3), 0);
        CHECK.due("99", x.of(7, 3), 99);
        rounds("the most uneven", x, 1, 0, 0, 99);
        CHECK.due("turned about", x.leave(0), 1);
        CHECK.due("99 again", x.come(0, 99), 2);
        rounds("the most even", x, 1, 0, 0, 0);
    }

    /** "UNKNOWN; OUTSIDE; NOT: it is THERE": and it stays as it came. */
    private static void comesWhenThere() {
        FeatherHall x = there(1, 10, 20, 30);
        x.played();
        waited("one ROUND", x, 0, 0, 1);
        CHECK.due("is THERE", x.come(2, 99), FeatherHall.NOT);
        CHECK.due("the same GRADE", x.come(2, 30), FeatherHall.NOT);
        CHECK.due("GRADE stays", x.of(2, 3), 30);
        CHECK.due("WAITED stays", x.of(2, 2), 1);
        CHECK.due("three THERE", x.count(2), 3);
        CHECK.due("OUTSIDE comes first", x.come(2, 100), FeatherHall.OUTSIDE);
        CHECK.due("OUTSIDE comes first", x.come(2, -1), FeatherHall.OUTSIDE);
        CHECK.due("UNKNOWN comes first", x.come(8, 100), FeatherHall.UNKNOWN);
        CHECK.due("UNKNOWN comes first", x.come(-1, -1), FeatherHall.UNKNOWN);
        CHECK.due("three THERE", x.count(2), 3);
    }

    /** "UNKNOWN; NOT: it is not THERE." */
    private static void goesWhenNotThere() {
        FeatherHall x = new FeatherHall();
        for (int player = 0; player < 8; player++) {
            CHECK.due("never came", x.leave(player), FeatherHall.NOT);
        }
        x.come(4, 50);
        CHECK.due("goes", x.leave(4), 0);
        CHECK.due("has gone", x.leave(4), FeatherHall.NOT);
        CHECK.due("no one is THERE", x.count(2), 0);
        CHECK.due("no PLAYER -1", x.leave(-1), FeatherHall.UNKNOWN);
        CHECK.due("no PLAYER 8", x.leave(8), FeatherHall.UNKNOWN);
        CHECK.due("comes again", x.come(4, 51), 1);
        CHECK.due("with that GRADE", x.of(4, 3), 51);
    }

    /** "How many are THERE": none to all eight and back. */
    private static void allEight() {
        FeatherHall x = new FeatherHall();
        for (int player = 7; player >= 0; player--) {
            CHECK.due("comes", x.come(player, 50), 8 - player);
            CHECK.due("counted", x.count(2), 8 - player);
        }
        CHECK.due("no ninth", x.come(8, 50), FeatherHall.UNKNOWN);
        for (int player = 7; player >= 0; player--) {
            CHECK.due("goes", x.leave(player), player);
            CHECK.due("counted", x.count(2), player);
        }
    }

    /** "As many GAMES of two PLAYERS that are THERE as COURTS, or as there can be". */
    private static void asManyGamesAsThereCanBe() {
        int[][] games = {{0, 0, 1, 1, 1, 1, 1, 1, 1}, {0, 0, 1, 1, 2, 2, 2, 2, 2}, {0, 0, 1, 1, 2, 2, 3, 3, 3},
            {0, 0, 1, 1, 2, 2, 3, 3, 4}};
        for (int courts = 1; courts <= 4; courts++) {
            for (int many = 0; many <= 8; many++) {
                FeatherHall x = there(courts, new int[many]);
                CHECK.due(courts + " COURTS, " + many + " THERE", x.round(0), games[courts - 1][many]);
                CHECK.due("as many are PLAYED", x.played(), games[courts - 1][many]);
            }
        }
    }

    /** "No one in two": who plays one is played by it, and twice as many play as there are GAMES. */
    private static void noOneInTwo() {
        for (int courts = 1; courts <= 4; courts++) {
            for (int many = 0; many <= 8; many++) {
                FeatherHall x = there(courts, new int[many]);
                for (int round = 0; round < 6; round++) {
                    int playing = 0;
                    for (int player = 0; player < 8; player++) {
                        int other = x.against(player);
                        if (other != FeatherHall.NONE) {
                            playing++;
                            CHECK.due("each other", x.against(other), player);
                            CHECK.holds("not itself, and THERE", other != player && other < many && player < many);
                        }
                    }
                    CHECK.due("twice the GAMES", playing, 2 * x.round(0));
                    x.played();
                }
            }
        }
    }

    private static void noOneThere() {
        FeatherHall x = new FeatherHall();
        rounds("no one", x, 0, 0, 0, 0);
        mates("no one", x, -1, -1, -1, -1, -1, -1, -1, -1);
        CHECK.due("no GAMES", x.played(), 0);
        CHECK.due("a ROUND", x.count(3), 1);
        waited("not THERE", x, -1, -1, -1, -1, -1, -1, -1, -1);
        rounds("still no one", x, 0, 0, 0, 0);
    }

    private static void oneThere() {
        FeatherHall x = new FeatherHall();
        x.come(7, 9);
        rounds("one", x, 0, 0, 0, 0);
        mates("one", x, -1, -1, -1, -1, -1, -1, -1, -1);
        CHECK.due("no GAMES", x.played(), 0);
        CHECK.due("it WAITED", x.of(7, 2), 1);
        CHECK.due("no GAMES", x.played(), 0);
        CHECK.due("it WAITED", x.of(7, 2), 2);
        x.come(0, 9);
        rounds("two", x, 1, 2, 0, 0);
        CHECK.due("one GAME", x.played(), 1);
        waited("both played", x, 0, -1, -1, -1, -1, -1, -1, 0);
    }

    /** "Who plays PLAYER in BEST ROUND; NONE: no one. UNKNOWN." */
    private static void againstNoOne() {
        FeatherHall x = there(1, 5, 5, 5);
        CHECK.due("plays", x.against(0), 1);
        CHECK.due("plays", x.against(1), 0);
        CHECK.due("is THERE, does not play", x.against(2), FeatherHall.NONE);
        CHECK.due("is not THERE", x.against(3), FeatherHall.NONE);
        CHECK.due("the last, not THERE", x.against(7), FeatherHall.NONE);
        CHECK.due("no PLAYER -1", x.against(-1), FeatherHall.UNKNOWN);
        CHECK.due("no PLAYER 8", x.against(8), FeatherHall.UNKNOWN);
        x.leave(0);
        CHECK.due("has left", x.against(0), FeatherHall.NONE);
        CHECK.due("plays another", x.against(1), 2);
    }

    /** "How many ROUNDS a PLAYER that was THERE did not play since it came": "comes .. (WAITED 0)". */
    private static void waitedSinceItCame() {
        FeatherHall x = there(1, 5, 5);
        x.played();
        x.played();
        CHECK.due("comes late", x.come(2, 5), 3);
        waited("it did not wait yet", x, 0, 0, 0);
        x.played();
        waited("one ROUND", x, 0, 1, 0);
        x.played();
        waited("1 played", x, 1, 0, 0);
        x.leave(0);
        waited("0 is gone", x, -1, 0, 0);
        x.played();
        x.played();
        x.come(0, 5);
        waited("came again", x, 0, 0, 0);
        x.leave(0);
        x.come(0, 5);
        waited("came at once again", x, 0, 0, 0);
    }

    /** "PLAYERS in it WAITED most together": ahead of games had and of GRADES. */
    private static void waitedMostComesFirst() {
        FeatherHall x = there(1, 0, 99, 50, 50);
        mates("even first", x, -1, -1, 3, 2);
        x.played();
        rounds("those who WAITED, uneven", x, 1, 2, 0, 99);
        mates("those who WAITED, uneven", x, 1, 0, -1, -1);
        x.played();
        x.played();
        rounds("had a game, yet WAITED", x, 1, 2, 1, 99);
        mates("had a game, yet WAITED", x, 1, 0, -1, -1);
        x.come(4, 0);
        x.courts(2);
        rounds("0 and 1 WAITED 1 each, the others none", x, 2, 2, 0, 49);
        mates("0 with 4 is as new as even", x, 4, 2, 1, -1, 0);
    }

    /** "Of several, the games that both had before, together, are fewest": ahead of GRADES. */
    private static void fewestGamesComeSecond() {
        FeatherHall x = there(2, 0, 1, 98, 99);
        rounds("even", x, 2, 0, 0, 2);
        x.played();
        rounds("uneven, but new", x, 2, 0, 0, 196);
        mates("uneven, but new", x, 2, 3, 0, 1);
        x.played();
        rounds("the last new", x, 2, 0, 0, 196);
        mates("the last new", x, 3, 2, 1, 0);
        x.played();
        rounds("all met once: even again", x, 2, 0, 2, 2);
        mates("all met once: even again", x, 1, 0, 3, 2);
        FeatherHall y = there(1, 5, 5);
        y.played();
        y.come(2, 5);
        y.come(3, 5);
        y.courts(2);
        rounds("one GAME had is enough", y, 2, 0, 0, 0);
        mates("one GAME had is enough", y, 2, 3, 0, 1);
    }

    /** "Together": one GAME had twice is as much as two had once, and then GRADES tell. */
    private static void gamesHadTogether() {
        FeatherHall x = new FeatherHall();
        int[][] had = {{0, 1, 2}, {0, 2, 1}, {1, 3, 1}, {0, 3, 3}};
        for (int[] both : had) {
            x.come(both[0], 0);
            x.come(both[1], 0);
            for (int round = 0; round < both[2]; round++) {
                x.played();
            }
            x.leave(both[0]);
            x.leave(both[1]);
        }
        int[][] grades = {{0, 0, 50, 50}, {0, 50, 0, 50}, {0, 50, 50, 0}};
        int[][] mates = {{1, 0, 3, 2}, {2, 3, 0, 1}, {1, 0, 3, 2}};
        for (int evening = 0; evening < 3; evening++) {
            for (int player = 0; player < 4; player++) {
                x.come(player, grades[evening][player]);
            }
            rounds("two had", x, 2, 0, 2, evening == 2 ? 100 : 0);
            mates("two had", x, mates[evening]);
            for (int player = 0; player < 4; player++) {
                x.leave(player);
            }
        }
    }

    /** "Then differences of GRADES together least". */
    private static void leastDifferencesComeThird() {
        FeatherHall x = there(2, 0, 99, 0, 99);
        rounds("none", x, 2, 0, 0, 0);
        mates("0 with 2", x, 2, 3, 0, 1);
        CHECK.due("differ by 1", there(1, 50, 51, 50).against(0), 2);
        CHECK.due("alike", there(1, 50, 50, 50).against(0), 1);
        CHECK.due("one below as well as one above", there(1, 50, 51, 49).against(0), 1);
        // Together: 1 with 2 differ by 1 alone, but leave 21 to 0 and 3.
        FeatherHall y = there(2, 10, 20, 21, 31);
        rounds("10 and 10 are less than 1 and 21", y, 2, 0, 0, 20);
        mates("10 and 10 are less than 1 and 21", y, 1, 0, 3, 2);
        FeatherHall z = there(2, 10, 20, 21, 30);
        rounds("10 and 9 are less than 1 and 20", z, 2, 0, 0, 19);
        // One COURT: only the two that play are looked at.
        mates("1 and 2 differ by 1", there(1, 10, 20, 21, 31), -1, 2, 1, -1);
    }

    /** "Then it is the first (by the GAME of the least PLAYER that plays: its number ..". */
    private static void firstByLeastPlayer() {
        mates("0 and 3 ahead of 1 and 2", there(1, 9, 1, 1, 9), 3, -1, -1, 0);
        mates("1 and 4 ahead of 2 and 3", there(1, 90, 5, 1, 1, 5), -1, 4, -1, -1, 1);
        mates("all alike", there(1, 1, 1, 1, 1, 1, 1, 1, 1), 1, 0, -1, -1, -1, -1, -1, -1);
    }

    /** ".. then the other's ..". */
    private static void firstByTheOther() {
        mates("0 with 2 or 3", there(1, 5, 90, 5, 5), 2, -1, 0, -1);
        mates("0 with 6 or 7", there(1, 0, 10, 20, 30, 40, 50, 0, 0), 6, -1, -1, -1, -1, -1, 0, -1);
    }

    /** ".. then of the next)". */
    private static void firstByTheNext() {
        mates("2 with 3, 4 or 5", there(2, 1, 1, 1, 1, 1, 1), 1, 0, 3, 2, -1, -1);
        // 0 with 1, then 2 with 5 or 3 with 4, both differ by 1.
        mates("2 with 5", there(2, 5, 5, 20, 40, 41, 21), 1, 0, 5, -1, -1, 2);
        // 0 with 1, then 3 with 4 or 5.
        mates("3 with 4", there(2, 5, 5, 70, 40, 40, 40), 1, 0, -1, 4, 3, -1);
        // 0 with 1, 2 with 3, then 4 with 5, 6 or 7.
        mates("4 with 5", there(3, 1, 1, 1, 1, 1, 1, 1, 1), 1, 0, 3, 2, 5, 4, -1, -1);
        mates("all four", there(4, 1, 1, 1, 1, 1, 1, 1, 1), 1, 0, 3, 2, 5, 4, 7, 6);
    }

    /** "The least PLAYER that plays" is not 0, if 0 does not. */
    private static void leastThatPlays() {
        FeatherHall x = there(1, 1, 1, 1, 1, 1);
        x.played();
        mates("2 with 3, 4", x, -1, -1, 3, 2, -1);
        x.played();
        // 4 WAITED 2, 0 and 1 WAITED 1.
        mates("0 with 4 ahead of 1 with 4", x, 4, -1, -1, -1, 0);
        FeatherHall y = new FeatherHall();
        y.come(7, 1);
        y.come(6, 1);
        y.come(5, 1);
        mates("5 with 6", y, -1, -1, -1, -1, -1, 6, 5, -1);
    }

    /** BEST ROUND is that of those who are THERE now, on the COURTS of now. */
    private static void changedRound() {
        FeatherHall x = there(1, 1, 1, 1, 1);
        mates("one COURT", x, 1, 0, -1, -1);
        x.courts(2);
        mates("two COURTS", x, 1, 0, 3, 2);
        x.leave(1);
        mates("1 is gone", x, 2, -1, 0, -1);
        x.come(1, 9);
        mates("1 is here with another GRADE", x, 1, 0, 3, 2);
        rounds("1 is here with another GRADE", x, 2, 0, 0, 8);
        x.leave(0);
        x.leave(1);
        x.leave(2);
        mates("one is left", x, -1, -1, -1, -1);
        rounds("one is left", x, 0, 0, 0, 0);
    }

    /** "Those in it WAITED 0, others THERE one more, each GAME one more for both." */
    private static void playedCounts() {
        FeatherHall x = there(2, 1, 1, 1, 1, 1, 1, 1);
        CHECK.due("two GAMES", x.played(), 2);
        waited("three WAITED", x, 0, 0, 0, 0, 1, 1, 1, -1);
        rounds("three that WAITED and one", x, 2, 3, 0, 0);
        mates("4 with 5 leaves 6 to 0, 0 with 4 comes first", x, 4, -1, -1, -1, 0, 6, 5);
        CHECK.due("two GAMES", x.played(), 2);
        waited("1, 2, 3 WAITED", x, 0, 1, 1, 1, 0, 0, 0, -1);
        CHECK.due("two ROUNDS", x.count(3), 2);
        int[] games = {2, 1, 1, 1, 1, 1, 1, 0};
        for (int player = 0; player < 8; player++) {
            CHECK.due("GAMES of " + player, x.of(player, 4), games[player]);
        }
        CHECK.due("0 and 1", x.had(0, 1), 1);
        CHECK.due("2 and 3", x.had(3, 2), 1);
        CHECK.due("0 and 4", x.had(4, 0), 1);
        CHECK.due("5 and 6", x.had(5, 6), 1);
        CHECK.due("0 and 2", x.had(0, 2), 0);
    }

    /** "How many GAMES two PLAYERS had. UNKNOWN: also one and itself." */
    private static void hadByBoth() {
        FeatherHall x = there(1, 1, 1);
        for (int games = 0; games < 5; games++) {
            CHECK.due("had", x.had(0, 1), games);
            CHECK.due("turned about", x.had(1, 0), games);
            x.played();
        }
        for (int player = 0; player < 8; player++) {
            CHECK.due("itself", x.had(player, player), FeatherHall.UNKNOWN);
            CHECK.due("-1", x.had(player, -1), FeatherHall.UNKNOWN);
            CHECK.due("-1", x.had(-1, player), FeatherHall.UNKNOWN);
            CHECK.due("8", x.had(player, 8), FeatherHall.UNKNOWN);
            CHECK.due("8", x.had(8, player), FeatherHall.UNKNOWN);
        }
        CHECK.due("no PLAYERS at all", x.had(8, 8), FeatherHall.UNKNOWN);
        x.leave(0);
        x.leave(1);
        CHECK.due("not THERE: had as before", x.had(0, 1), 5);
        CHECK.due("never THERE", x.had(6, 7), 0);
        x.come(0, 1);
        x.come(1, 1);
        CHECK.due("THERE again: had as before", x.round(2), 5);
    }

    /** "0 GAMES, 1 WAITED together, 2 games had before, 3 differences of GRADES": OUTSIDE beyond. */
    private static void whatOfRound() {
        FeatherHall x = there(1, 20, 30);
        x.played();
        x.played();
        x.come(2, 99);
        x.leave(2);
        int[] want = {FeatherHall.OUTSIDE, 1, 0, 2, 10, FeatherHall.OUTSIDE};
        for (int what = -1; what <= 4; what++) {
            CHECK.due("what " + what, x.round(what), want[what + 1]);
        }
    }

    /** "0 STRIDE, 1 TIRED, 2 WAITED, 3 GRADE (2, 3: NONE, if it is not THERE), 4 GAMES it had." */
    private static void whatOfPlayer() {
        FeatherHall x = there(1, 20, 30, 40);
        x.played();
        x.player(2, 20, 0);
        x.run(2, 10);
        x.player(0, 8, 0);
        int[] waiting = {FeatherHall.OUTSIDE, 19, 10, 1, 40, 0, FeatherHall.OUTSIDE};
        int[] playing = {FeatherHall.OUTSIDE, 8, 0, 0, 20, 1, FeatherHall.OUTSIDE};
        int[] gone = {FeatherHall.OUTSIDE, 8, 0, FeatherHall.NONE, FeatherHall.NONE, 1, FeatherHall.OUTSIDE};
        int[] never = {FeatherHall.OUTSIDE, 10, 0, FeatherHall.NONE, FeatherHall.NONE, 0, FeatherHall.OUTSIDE};
        for (int what = -1; what <= 5; what++) {
            CHECK.due("waiting, what " + what, x.of(2, what), waiting[what + 1]);
            CHECK.due("playing, what " + what, x.of(0, what), playing[what + 1]);
            CHECK.due("never there, what " + what, x.of(7, what), never[what + 1]);
            CHECK.due("no PLAYER -1", x.of(-1, what), FeatherHall.UNKNOWN);
            CHECK.due("no PLAYER 8", x.of(8, what), FeatherHall.UNKNOWN);
        }
        x.leave(0);
        for (int what = -1; what <= 5; what++) {
            CHECK.due("gone, what " + what, x.of(0, what), gone[what + 1]);
        }
    }

    /** "0 NOTES, 1 HABITS TRIED, 2 PLAYERS THERE, 3 ROUNDS that were PLAYED, 4 KINDS of the PLAN": OUTSIDE beyond. */
    private static void whatOfCount() {
        FeatherHall x = new FeatherHall();
        int[] none = {FeatherHall.OUTSIDE, 0, 0, 0, 0, 0, FeatherHall.OUTSIDE};
        for (int what = -1; what <= 5; what++) {
            CHECK.due("at first, what " + what, x.count(what), none[what + 1]);
        }
        for (int note = 0; note < 6; note++) {
            x.note(0, note % 2, false);
        }
        x.come(0, 1);
        x.come(1, 1);
        x.come(2, 1);
        for (int round = 0; round < 4; round++) {
            x.played();
        }
        for (int strike = 0; strike < 5; strike++) {
            x.plan(3);
        }
        int[] want = {FeatherHall.OUTSIDE, 6, 2, 3, 4, 5, FeatherHall.OUTSIDE};
        for (int what = -1; what <= 5; what++) {
            CHECK.due("what " + what, x.count(what), want[what + 1]);
        }
    }

    /** "An object is used for at most 512 calls": as many ROUNDS as fit, up to the last call. */
    private static void manyRounds() {
        FeatherHall x = there(1, 1, 1);
        for (int round = 0; round < 505; round++) {
            x.played();
        }
        CHECK.due("call 509: had", x.had(0, 1), 505);
        CHECK.due("call 510: GAMES", x.of(1, 4), 505);
        CHECK.due("call 511: games had before", x.round(2), 505);
        CHECK.due("call 512: ROUNDS", x.count(3), 505);
        FeatherHall y = there(1, 1);
        for (int round = 0; round < 508; round++) {
            y.played();
        }
        CHECK.due("call 511: WAITED", y.of(0, 2), 508);
        CHECK.due("call 512: ROUNDS", y.count(3), 508);
    }
}
