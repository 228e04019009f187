import java.util.ArrayList;
import java.util.List;

/**
 * "A method that throws an exception changes nothing": a house that was asked for refused calls answers all
 * questions like one that was not. Each house is asked a part of the questions, for an object is used for at
 * most 512 calls.
 */
final class Unchanged {
    private static final int REFUSED_AT_ONCE = 150;
    private static final int ASKED_AT_ONCE = 250;
    private static final List<Line> QUESTIONS = questions();
    private static final List<Line> LATER_CALLS = laterCalls();

    private Unchanged() {
    }

    /** A house is made by some calls, a hundred at most. */
    static void check(Checks c, List<Line> house, List<Line> refused) {
        for (int from = 0; from < refused.size(); from += REFUSED_AT_ONCE) {
            List<Line> some = refused.subList(from, Math.min(from + REFUSED_AT_ONCE, refused.size()));
            for (int asked = 0; asked < QUESTIONS.size(); asked += ASKED_AT_ONCE) {
                int end = Math.min(asked + ASKED_AT_ONCE, QUESTIONS.size());
                compare(c, house, some, QUESTIONS.subList(asked, end));
            }
            compare(c, house, some, LATER_CALLS);
        }
    }

    private static void compare(Checks c, List<Line> house, List<Line> refused, List<Line> asked) {
        Stepscript used = Houses.made(house);
        Stepscript unused = Houses.made(house);
        for (Line call : refused) {
            String answer = call.askedOf(used);
            c.alike(call, Line.isThrown(answer) ? "thrown" : answer, "thrown");
        }
        for (Line call : asked) {
            boolean alike = c.alike(call, call.askedOf(used), call.askedOf(unused));
            if (!alike) {
                System.out.println("... where " + refused.size() + " calls were refused: " + refused.get(0) + " ..");
            }
        }
    }

    /** All that can be asked without a change; what is not there must stay away too. */
    private static List<Line> questions() {
        List<Line> all = new ArrayList<>();
        all.add(new Line("firstClash"));
        for (int count = 0; count < 64; count++) {
            all.add(new Line("clashes", count));
            all.add(new Line("begins", count));
            for (int dancer = 0; dancer < 8; dancer++) {
                for (int rows = 0; rows < 2; rows++) {
                    all.add(new Line("place", dancer, count, rows));
                    all.add(new Line("placeAnew", dancer, count, rows));
                }
            }
        }
        for (int lift = 0; lift < 12; lift++) {
            for (int what = 0; what < 5; what++) {
                all.add(new Line("ofLift", lift, what));
            }
        }
        for (int hour = 8; hour <= 20; hour++) {
            for (int room = 0; room < 3; room++) {
                all.add(new Line("rehearsal", room, hour));
            }
        }
        for (int dancer = 0; dancer < 8; dancer++) {
            all.add(new Line("knees", dancer));
        }
        return all;
    }

    /** Calls whose answers tell what no question does: who is written out, what counts last, the day. */
    private static List<Line> laterCalls() {
        List<Line> all = new ArrayList<>();
        for (int dancer = 0; dancer < 8; dancer++) {
            all.add(new Line("move", dancer, 63, 1, 0));
        }
        for (int count = 63; count >= 0; count--) {
            all.add(new Line("tempo", count, 1 + count));
        }
        all.add(new Line("lift", 63, 0, 1, 2));
        all.add(new Line("lift", 62, 5, 6, 7));
        for (int hour = 8; hour <= 20; hour++) {
            all.add(new Line("rehearse", hour % 3, hour, hour, hour));
        }
        for (int dancer = 7; dancer >= 0; dancer--) {
            all.add(new Line("hurt", dancer));
        }
        all.add(new Line("sleep"));
        for (int dancer = 0; dancer < 8; dancer++) {
            all.add(new Line("knees", dancer));
        }
        for (int place = 0; place < 8; place++) {
            all.add(new Line("dancer", place, place));
        }
        return all;
    }
}
