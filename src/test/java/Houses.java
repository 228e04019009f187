import java.util.ArrayList;
import java.util.List;

/** Houses for the tests. */
final class Houses {
    private Houses() {
    }

    /** A house to which dancers have come: a column and a row for each. */
    static Stepscript at(int... places) {
        return made(comingTo(places));
    }

    /** None of the calls may be refused. */
    static Stepscript made(List<Line> calls) {
        Stepscript house = new Stepscript();
        for (Line call : calls) {
            String answer = call.askedOf(house);
            if (Line.isThrown(answer)) {
                throw new AssertionError(call + " answered " + answer);
            }
        }
        return house;
    }

    static PlainHouse madePlain(List<Line> calls) {
        PlainHouse house = new PlainHouse();
        for (Line call : calls) {
            call.askedOf(house);
        }
        return house;
    }

    static List<Line> comingTo(int... places) {
        List<Line> calls = new ArrayList<>();
        for (int i = 0; i + 1 < places.length; i += 2) {
            calls.add(new Line("dancer", places[i], places[i + 1]));
        }
        return calls;
    }

    /**
     * 8 dancers and 12 lifts on day 1: 5 has 60 points, 7 is written out, and so some lifts are gone and some
     * are by others; the rooms 0 and 1 are taken at 8, room 2 at 20; the count 3 begins at the greatest int.
     */
    static List<Line> full() {
        List<Line> calls = comingTo(0, 0, 1, 0, 0, 1, 3, 3, 4, 3, 3, 4, 7, 7, 7, 0);
        calls.add(new Line("move", 6, 0, -2, -2));
        calls.add(new Line("move", 6, 63, 2, 2));
        for (int count = 20; count < 35; count++) {
            int way = count % 2 == 0 ? 2 : -2;
            calls.add(new Line("move", 5, count, way, -way));
        }
        for (int i = 0; i < 6; i++) {
            calls.add(new Line("lift", 40 + i, 0, 1, 2));
        }
        for (int i = 0; i < 4; i++) {
            calls.add(new Line("lift", 46 + i % 2, 3, 7, 4));
        }
        calls.add(new Line("lift", 63, 3, 4, 7));
        calls.add(new Line("lift", 0, 7, 0, 1));
        calls.add(new Line("tempo", 0, 1000000000));
        calls.add(new Line("tempo", 2, 147483647));
        calls.add(new Line("tempo", 3, 1));
        calls.add(new Line("sleep"));
        calls.add(new Line("rehearse", 0, 8, 20, 34));
        calls.add(new Line("rehearse", 1, 8, 0, 0));
        calls.add(new Line("rehearse", 2, 20, 50, 60));
        calls.add(new Line("hurt", 7));
        return calls;
    }
}
