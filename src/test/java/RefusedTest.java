import java.util.ArrayList;
import java.util.Arrays;
import java.util.List;

/**
 * "If several exceptions apply, the one that is documented first is thrown", for each two of each method;
 * and "a method that throws an exception changes nothing", for each of these calls.
 */
public final class RefusedTest {
    private static final Checks c = new Checks("RefusedTest");

    private static List<Line> house;
    private static final List<Line> refused = new ArrayList<>();

    public static void main(String[] args) {
        inANewHouse();
        dancer();
        move();
        places();
        clashes();
        lift();
        ofLift();
        tempo();
        begins();
        rehearse();
        rehearsal();
        knees();
        hurt();
        c.close();
    }

    /** The calls that follow, up to the end of them, are each for this house, built anew. */
    private static void in(List<Line> built) {
        house = built;
    }

    private static void end() {
        Unchanged.check(c, house, refused);
        refused.clear();
    }

    private static Stepscript builtFor(String name, int... args) {
        refused.add(new Line(name, args));
        return Houses.made(house);
    }

    private static void noPlace(String name, int... args) {
        c.noPlace(builtFor(name, args), name, args);
    }

    private static void badArgument(String name, int... args) {
        c.badArgument(builtFor(name, args), name, args);
    }

    private static void isRefused(String name, int... args) {
        c.refused(builtFor(name, args), name, args);
    }

    private static void beyond(String name, int... args) {
        c.beyond(builtFor(name, args), name, args);
    }

    private static void inANewHouse() {
        in(new ArrayList<>());
        noPlace("dancer", 8, 8);
        noPlace("move", 0, 0, 0, 0);
        noPlace("move", 0, 0, 3, 3);
        noPlace("place", 0, 0, 0);
        noPlace("placeAnew", 0, 0, 1);
        noPlace("clashes", 64);
        noPlace("lift", 0, 0, 1, 2);
        noPlace("lift", 0, 0, 0, 0);
        noPlace("ofLift", 0, 0);
        noPlace("ofLift", 0, 5);
        noPlace("tempo", 64, 1);
        noPlace("begins", 64);
        noPlace("rehearse", 3, 8, 0, 0);
        badArgument("rehearse", 0, 8, 63, 0);
        noPlace("rehearsal", 0, 7);
        noPlace("knees", 0);
        noPlace("hurt", 0);
        end();
    }

    private static void dancer() {
        in(Houses.comingTo(0, 0, 7, 7));
        isRefused("dancer", 0, 0);
        isRefused("dancer", 7, 7);
        noPlace("dancer", -1, 0);
        noPlace("dancer", 0, -1);
        noPlace("dancer", 8, 7);
        noPlace("dancer", 7, 8);
        end();
        in(Houses.full());
        isRefused("dancer", 5, 5);
        // Taken, and there are 8.
        isRefused("dancer", 7, 0);
        // No such place, and there are 8.
        noPlace("dancer", -1, 5);
        noPlace("dancer", 5, 8);
        end();
    }

    private static void move() {
        in(Houses.full());
        noPlace("move", -1, 5, 1, 1);
        noPlace("move", 8, 5, 1, 1);
        noPlace("move", 0, -1, 1, 1);
        noPlace("move", 0, 64, 1, 1);
        badArgument("move", 0, 5, -3, 1);
        badArgument("move", 0, 5, 3, 1);
        badArgument("move", 0, 5, 1, -3);
        badArgument("move", 0, 5, 1, 3);
        isRefused("move", 7, 0, 1, 1);
        isRefused("move", 7, 63, 0, 0);
        // No dancer or no count ahead of the ways, and ahead of one who is written out.
        noPlace("move", 8, 5, 3, 1);
        noPlace("move", -1, 64, 1, -3);
        noPlace("move", 0, 64, 3, 3);
        noPlace("move", 7, 64, 1, 1);
        noPlace("move", 7, -1, 3, 1);
        badArgument("move", 7, 5, 3, 1);
        badArgument("move", 7, 5, 1, -3);
        end();
    }

    private static void places() {
        in(Houses.full());
        for (String name : new String[] {"place", "placeAnew"}) {
            for (int rows = 0; rows < 2; rows++) {
                noPlace(name, -1, 5, rows);
                noPlace(name, 8, 5, rows);
                noPlace(name, 7, -1, rows);
                noPlace(name, 7, 64, rows);
                noPlace(name, 8, 64, rows);
            }
        }
        end();
    }

    private static void clashes() {
        in(Houses.full());
        noPlace("clashes", -1);
        noPlace("clashes", 64);
        end();
    }

    private static void lift() {
        // The last one is written out; no lift is there yet.
        List<Line> four = new ArrayList<>(Houses.comingTo(3, 3, 4, 3, 3, 4, 2, 2));
        four.add(new Line("hurt", 3));
        in(four);
        isRefused("lift", 0, 3, 0, 1);
        isRefused("lift", 0, 0, 3, 1);
        isRefused("lift", 0, 0, 1, 3);
        liftsThatNobodyCanWrite(4, 3);
        end();
        in(Houses.full());
        isRefused("lift", 0, 0, 1, 2);
        // Written out, and there are 12.
        isRefused("lift", 0, 7, 0, 1);
        liftsThatNobodyCanWrite(8, 7);
        end();
    }

    private static void liftsThatNobodyCanWrite(int none, int out) {
        noPlace("lift", -1, 0, 1, 2);
        noPlace("lift", 64, 0, 1, 2);
        noPlace("lift", 0, none, 1, 2);
        noPlace("lift", 0, 0, none, 2);
        noPlace("lift", 0, 0, 1, none);
        noPlace("lift", 0, -1, 1, 2);
        noPlace("lift", 0, 0, -1, 2);
        noPlace("lift", 0, 0, 1, -1);
        badArgument("lift", 0, 1, 1, 2);
        badArgument("lift", 0, 1, 2, 1);
        badArgument("lift", 0, 2, 1, 1);
        badArgument("lift", 0, 1, 1, 1);
        // No count or no dancer ahead of two who are one, and ahead of one who is written out.
        noPlace("lift", 64, 1, 1, 2);
        noPlace("lift", 64, out, 0, 1);
        noPlace("lift", 0, none, none, 1);
        noPlace("lift", 0, 1, 1, none);
        noPlace("lift", 0, out, 1, none);
        noPlace("lift", 0, none, out, 1);
        badArgument("lift", 0, out, out, 1);
        badArgument("lift", 0, 1, out, out);
        badArgument("lift", 0, out, 1, 1);
    }

    private static void ofLift() {
        in(Houses.full());
        noPlace("ofLift", -1, 0);
        noPlace("ofLift", 12, 4);
        badArgument("ofLift", 0, -1);
        badArgument("ofLift", 11, 5);
        noPlace("ofLift", -1, 5);
        noPlace("ofLift", 12, -1);
        end();
    }

    private static void tempo() {
        in(Houses.full());
        noPlace("tempo", -1, 500);
        noPlace("tempo", 64, 500);
        badArgument("tempo", 0, 0);
        badArgument("tempo", 63, 1000000001);
        badArgument("tempo", 5, -1);
        noPlace("tempo", -1, 0);
        noPlace("tempo", 64, 1000000001);
        end();
    }

    private static void begins() {
        in(Houses.full());
        noPlace("begins", -1);
        noPlace("begins", 64);
        beyond("begins", 4);
        beyond("begins", 63);
        end();
    }

    private static void rehearse() {
        in(Houses.full());
        // The room is taken; so it is where nobody would take part.
        isRefused("rehearse", 0, 8, 0, 63);
        isRefused("rehearse", 1, 8, 12, 13);
        // 6 is in room 1 at 8; 5 has 60 points.
        isRefused("rehearse", 2, 8, 0, 0);
        isRefused("rehearse", 2, 19, 20, 20);
        // Both at once.
        isRefused("rehearse", 2, 8, 0, 20);
        badArgument("rehearse", 2, 9, 1, 0);
        badArgument("rehearse", 2, 9, 63, 62);
        int[][] nowhere = {{-1, 8, 0, 0}, {3, 8, 0, 0}, {0, 7, 0, 0}, {0, 21, 0, 0}, {0, 9, -1, 0}, {0, 9, 64, 64},
            {0, 9, 0, -1}, {0, 9, 0, 64}};
        for (int[] args : nowhere) {
            noPlace("rehearse", args);
        }
        // No count, room or hour ahead of an order of the counts, and that ahead of a room that is taken.
        noPlace("rehearse", 0, 8, 64, 63);
        noPlace("rehearse", 2, 9, 0, -1);
        noPlace("rehearse", 3, 8, 5, 4);
        noPlace("rehearse", 0, 21, 5, 4);
        noPlace("rehearse", 0, 8, 0, 64);
        badArgument("rehearse", 0, 8, 5, 4);
        badArgument("rehearse", 2, 8, 20, 0);
        end();
    }

    private static void rehearsal() {
        in(Houses.full());
        for (int[] args : Arrays.asList(new int[] {-1, 8}, new int[] {3, 8}, new int[] {0, 7}, new int[] {0, 21})) {
            noPlace("rehearsal", args);
        }
        noPlace("rehearsal", 3, 21);
        end();
    }

    private static void knees() {
        in(Houses.full());
        noPlace("knees", -1);
        noPlace("knees", 8);
        end();
    }

    private static void hurt() {
        in(Houses.full());
        noPlace("hurt", -1);
        noPlace("hurt", 8);
        isRefused("hurt", 7);
        end();
    }
}
