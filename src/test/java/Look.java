import java.util.ArrayList;
import java.util.List;

/** All that can be seen of a hall, so that two can be held against each other; some 250 calls. */
final class Look {
    private final List<String> calls = new ArrayList<>();
    private final List<Integer> answers = new ArrayList<>();
    private final FeatherHall hall;

    private Look(FeatherHall hall) {
        this.hall = hall;
    }

    /** Looks at all; the hall is used up by it, for what can be told only by setting it is set at the end. */
    static Look at(FeatherHall hall) {
        Look look = new Look(hall);
        look.flights();
        look.players();
        look.three();
        look.notes();
        look.feathers();
        look.evening();
        look.whatIsSet();
        return look;
    }

    static boolean alike(FeatherHall one, FeatherHall two) {
        return at(one).answers.equals(at(two).answers);
    }

    /** Tells every answer in which two halls differ. */
    static void same(Check check, String when, FeatherHall one, FeatherHall two) {
        Look first = at(one);
        Look second = at(two);
        boolean alike = first.answers.equals(second.answers);
        check.holds(when, alike);
        for (int i = 0; i < first.answers.size() && !alike; i++) {
            if (!first.answers.get(i).equals(second.answers.get(i))) {
                System.out.println("  " + first.calls.get(i) + ": " + first.answers.get(i) + ", without it "
                    + second.answers.get(i));
            }
        }
    }

    private void see(String name, int... arguments) {
        calls.add(Calls.text(name, arguments));
        answers.add(Calls.ask(hall, name, arguments));
    }

    private void flights() {
        for (int kind = 0; kind < 4; kind++) {
            for (int what = 0; what < 3; what++) {
                see("flight", kind, 12, 15, what);
                see("flight", kind, 1, 8, what);
            }
            for (int n = 1; n <= 5; n++) {
                see("over", kind, 12, 15, n);
            }
        }
    }

    private void players() {
        for (int player = 0; player < 8; player++) {
            for (int what = 0; what < 5; what++) {
                see("of", player, what);
            }
            see("slack", player, 3, 1, 0, 12);
        }
        see("strike", 5, 0, 0, 0);
        see("stand", 1, 12, 0);
        see("wins", 0, 1, 5, 6, 2);
    }

    private void three() {
        for (int what = 0; what < 6; what++) {
            see("three", what);
        }
    }

    private void notes() {
        for (int habit = 0; habit < 16; habit++) {
            see("tally", habit / 4, habit % 4, 0);
            see("habit", habit / 4, habit % 4);
        }
        for (int one = 0; one < 4; one++) {
            see("tally", one, one, 1);
            see("tally", one, one, 2);
        }
        see("tally", 0, 0, 3);
        see("strongest");
    }

    private void feathers() {
        for (int s = 1; s <= 120; s += 7) {
            see("costs", s);
        }
        see("change");
    }

    private void evening() {
        for (int what = 0; what < 4; what++) {
            see("round", what);
        }
        for (int one = 0; one < 8; one++) {
            see("against", one);
            for (int two = one + 1; two < 8; two++) {
                see("had", one, two);
            }
        }
        for (int what = 0; what < 5; what++) {
            see("count", what);
        }
    }

    private void whatIsSet() {
        see("broken", 0);
        see("cost", 0, 1);
        see("cost", 1, 99);
        see("courts", 1);
        for (int kind = 0; kind < 4; kind++) {
            see("wear", kind, 0);
        }
        // With one KIND alone that wears, the costs tell where the PLAN has it.
        for (int kind = 0; kind < 4; kind++) {
            see("wear", kind, 9);
            for (int s = 20; s <= 120; s += 20) {
                see("costs", s);
            }
            see("wear", kind, 0);
        }
        see("unplan");
        see("again");
    }
}
