/** Many runs of calls, the same each time, on the class and on the plain house: all answers must be alike. */
public final class LikePlainHouseTest {
    private static final int RUNS = 3000;
    private static final int CALLS = 512;
    private static final String[] NAMES = {"dancer", "move", "place", "placeAnew", "clashes", "firstClash", "lift",
        "ofLift", "tempo", "begins", "rehearse", "rehearsal", "knees", "hurt", "sleep"};
    /** How often each is called. */
    private static final int[] SHARES = {6, 30, 6, 6, 8, 3, 8, 10, 3, 4, 12, 4, 6, 1, 2};

    private final Draws draws;
    /** Whether dancers, counts, hours and spans of rehearsals come from all that there are. */
    private final boolean wide;
    private final int span;
    private final Stepscript tested = new Stepscript();
    private final PlainHouse plain = new PlainHouse();

    private LikePlainHouseTest(long seed) {
        draws = new Draws(seed);
        wide = seed % 3 == 0;
        // In a short span of counts, moves, lifts and rehearsals come together.
        span = 2 + draws.below(8);
    }

    public static void main(String[] args) {
        int[] answered = new int[NAMES.length];
        int[] threw = new int[NAMES.length];
        for (int seed = 0; seed < RUNS; seed++) {
            LikePlainHouseTest run = new LikePlainHouseTest(seed);
            for (int call = 0; call < CALLS; call++) {
                int which = run.pick();
                Line line = new Line(NAMES[which], run.argumentsFor(which));
                String got = line.askedOf(run.tested);
                String want = line.askedOf(run.plain);
                if (!got.equals(want)) {
                    end("run " + seed + ", call " + call + ": " + line + " answered " + got + ", the plain house " + want);
                }
                (Line.isThrown(got) ? threw : answered)[which]++;
            }
        }
        for (int i = 0; i < NAMES.length; i++) {
            if (answered[i] == 0 || threw[i] == 0 && !NAMES[i].matches("firstClash|sleep")) {
                end(NAMES[i] + " never answered, or never threw");
            }
        }
        System.out.println("LikePlainHouseTest: " + RUNS + " runs of " + CALLS + " calls, all alike");
    }

    private static void end(String why) {
        System.out.println("LikePlainHouseTest: " + why);
        System.exit(1);
    }

    private int pick() {
        int all = 0;
        for (int share : SHARES) {
            all += share;
        }
        int left = draws.below(all);
        int which = 0;
        while (left >= SHARES[which]) {
            left -= SHARES[which];
            which++;
        }
        return which;
    }

    /** Mostly from least to most, seldom beside it or far away. */
    private int from(int least, int most) {
        int kind = draws.below(150);
        if (kind == 0) {
            return least - 1;
        }
        if (kind == 1) {
            return most + 1;
        }
        if (kind == 2) {
            return draws.next();
        }
        return least + draws.below(most - least + 1);
    }

    private int count() {
        int kind = draws.below(20);
        if (wide || kind == 0) {
            return from(0, 63);
        }
        return kind < 4 ? 63 - draws.below(2) : from(0, span);
    }

    private int someone() {
        return from(0, wide || draws.below(12) == 0 ? 7 : 5);
    }

    private int stagePlace() {
        return wide ? from(0, 7) : from(2, 5);
    }

    private int last() {
        return draws.below(3) == 0 ? from(1, 1000000000) : from(1, 2000);
    }

    private int[] argumentsFor(int which) {
        switch (NAMES[which]) {
            case "dancer":
                return new int[] {stagePlace(), stagePlace()};
            case "move":
                return new int[] {someone(), count(), from(-2, 2), from(-2, 2)};
            case "place":
            case "placeAnew":
                return new int[] {someone(), count(), draws.below(2)};
            case "clashes":
            case "begins":
                return new int[] {draws.below(4) == 0 ? from(0, 63) : count()};
            case "lift":
                return new int[] {count(), someone(), someone(), someone()};
            case "ofLift":
                return new int[] {from(0, 11), draws.below(3) == 0 ? from(0, 4) : 4};
            case "tempo":
                return new int[] {count(), last()};
            case "rehearse":
                int start = count();
                return new int[] {from(0, 2), from(8, wide ? 20 : 12), start, start + from(0, wide ? 40 : 2)};
            case "rehearsal":
                return new int[] {from(0, 2), from(8, 20)};
            case "knees":
            case "hurt":
                return new int[] {someone()};
            default:
                return new int[0];
        }
    }
}
