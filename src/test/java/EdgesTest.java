import java.util.ArrayList;
import java.util.Arrays;
import java.util.List;

/**
 * Each method with all its arguments at, beside and far beyond their bounds, in a house that is new, one of
 * a dancer, one of three and a full one: it answers as the plain house does, and what it refuses changes nothing.
 */
public final class EdgesTest {
    private static final int LEAST = Integer.MIN_VALUE;
    private static final int MOST = Integer.MAX_VALUE;
    private static final int[] STAGE = {LEAST, -1, 0, 7, 8, MOST};
    private static final int[] DANCERS = {LEAST, -1, 0, 1, 2, 3, 7, 8, MOST};
    private static final int[] COUNTS = {LEAST, -1, 0, 62, 63, 64, MOST};
    private static final int[] WAYS = {LEAST, -3, -2, 0, 2, 3, MOST};
    private static final int[] LIFTS = {LEAST, -1, 0, 1, 11, 12, MOST};
    private static final int[] WHATS = {LEAST, -1, 0, 1, 2, 3, 4, 5, MOST};
    private static final int[] LASTS = {LEAST, -1, 0, 1, 1000000000, 1000000001, MOST};
    private static final int[] ROOMS = {LEAST, -1, 0, 2, 3, MOST};
    private static final int[] HOURS = {LEAST, 0, 7, 8, 20, 21, MOST};
    private static final int[] BOTH = {0, 1};
    private static final List<Line> LATER = later();

    private static final Checks c = new Checks("EdgesTest");

    public static void main(String[] args) {
        allIn(new ArrayList<>());
        allIn(Houses.comingTo(7, 0));
        allIn(Houses.comingTo(3, 3, 4, 3, 3, 4));
        allIn(Houses.full());
        c.close();
    }

    private static void allIn(List<Line> house) {
        edges(house, "dancer", STAGE, STAGE);
        edges(house, "move", DANCERS, COUNTS, WAYS, WAYS);
        edges(house, "place", DANCERS, COUNTS, BOTH);
        edges(house, "placeAnew", DANCERS, COUNTS, BOTH);
        edges(house, "clashes", COUNTS);
        edges(house, "firstClash");
        edges(house, "lift", COUNTS, DANCERS, DANCERS, DANCERS);
        edges(house, "ofLift", LIFTS, WHATS);
        edges(house, "tempo", COUNTS, LASTS);
        edges(house, "begins", COUNTS);
        edges(house, "rehearse", ROOMS, HOURS, COUNTS, COUNTS);
        edges(house, "rehearsal", ROOMS, HOURS);
        edges(house, "knees", DANCERS);
        edges(house, "hurt", DANCERS);
        edges(house, "sleep");
    }

    private static void edges(List<Line> house, String name, int[]... choices) {
        int all = 1;
        for (int[] choice : choices) {
            all *= choice.length;
        }
        List<Line> refused = new ArrayList<>();
        for (int which = 0; which < all; which++) {
            int[] args = new int[choices.length];
            int left = which;
            for (int i = 0; i < args.length; i++) {
                args[i] = choices[i][left % choices[i].length];
                left /= choices[i].length;
            }
            Line call = new Line(name, args);
            if (isRefused(house, call)) {
                refused.add(call);
            }
        }
        Unchanged.check(c, house, refused);
    }

    private static boolean isRefused(List<Line> house, Line call) {
        Stepscript tested = Houses.made(house);
        PlainHouse plain = Houses.madePlain(house);
        String got = call.askedOf(tested);
        c.alike(call, got, call.askedOf(plain));
        boolean refused = Line.isThrown(got);
        if (!refused) {
            for (Line later : LATER) {
                c.alike(later + " behind " + call, later.askedOf(tested), later.askedOf(plain));
            }
        }
        return refused;
    }

    private static List<Line> later() {
        List<Line> all = new ArrayList<>();
        for (int dancer = 0; dancer < 8; dancer++) {
            for (int count : new int[] {0, 1, 62, 63}) {
                all.add(new Line("place", dancer, count, 0));
                all.add(new Line("placeAnew", dancer, count, 1));
            }
            all.add(new Line("knees", dancer));
        }
        for (int lift = 0; lift < 12; lift++) {
            for (int what = 0; what < 5; what++) {
                all.add(new Line("ofLift", lift, what));
            }
        }
        for (int room = 0; room < 3; room++) {
            all.add(new Line("rehearsal", room, 8));
            all.add(new Line("rehearsal", room, 20));
        }
        all.addAll(Arrays.asList(new Line("begins", 1), new Line("begins", 63), new Line("firstClash")));
        return all;
    }
}
