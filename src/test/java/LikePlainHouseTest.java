import java.util.Random;

/** Many runs of calls, the same each time, on the class and on the plain house: all answers must be alike. */
public final class LikePlainHouseTest {
    private static final int RUNS = 3000;
    private static final int CALLS = 512;
    private static final String[] NAMES = {"dancer", "move", "place", "placeAnew", "clashes", "firstClash", "lift",
        "ofLift", "tempo", "begins", "rehearse", "rehearsal", "knees", "hurt", "sleep"};
    /** How often each is called. */
    private static final int[] SHARES = {6, 30, 6, 6, 8, 3, 8, 10, 3, 4, 12, 4, 6, 1, 2};

    private final Random random;
    private final int span;
    private final Stepscript tested = new Stepscript();
    private final PlainHouse plain = new PlainHouse();
    private final int[] answered = new int[NAMES.length];
    private final int[] threw = new int[NAMES.length];

    private LikePlainHouseTest(long seed) {
        random = new Random(seed);
        // In a short span of counts, moves, lifts and rehearsals come together.
        span = 2 + random.nextInt(8);
    }

    public static void main(String[] args) {
        int[] answered = new int[NAMES.length];
        int[] threw = new int[NAMES.length];
        for (int seed = 0; seed < RUNS; seed++) {
            LikePlainHouseTest run = new LikePlainHouseTest(seed);
            for (int call = 0; call < CALLS; call++) {
                String wrong = run.call();
                if (wrong != null) {
                    System.out.println("LikePlainHouseTest: run " + seed + ", call " + call + ": " + wrong);
                    System.exit(1);
                }
            }
            for (int i = 0; i < NAMES.length; i++) {
                answered[i] += run.answered[i];
                threw[i] += run.threw[i];
            }
        }
        for (int i = 0; i < NAMES.length; i++) {
            boolean never = answered[i] == 0 || threw[i] == 0 && !NAMES[i].matches("firstClash|sleep");
            if (never) {
                System.out.println("LikePlainHouseTest: " + NAMES[i] + " never answered, or never threw");
                System.exit(1);
            }
        }
        System.out.println("LikePlainHouseTest: " + RUNS + " runs of " + CALLS + " calls, all alike");
    }

    private String call() {
        int which = pick();
        int[] a = argumentsFor(which);
        String got = told(false, which, a);
        String want = told(true, which, a);
        if (!got.equals(want)) {
            return NAMES[which] + java.util.Arrays.toString(a) + " answered " + got + ", the plain house " + want;
        }
        (got.endsWith("Exception") ? threw : answered)[which]++;
        return null;
    }

    private int pick() {
        int all = 0;
        for (int share : SHARES) {
            all += share;
        }
        int left = random.nextInt(all);
        int which = 0;
        while (left >= SHARES[which]) {
            left -= SHARES[which];
            which++;
        }
        return which;
    }

    /** Mostly from least to most, seldom beside it or far away. */
    private int from(int least, int most) {
        int kind = random.nextInt(150);
        if (kind == 0) {
            return least - 1;
        }
        if (kind == 1) {
            return most + 1;
        }
        if (kind == 2) {
            return random.nextInt();
        }
        return least + random.nextInt(most - least + 1);
    }

    private int count() {
        int kind = random.nextInt(20);
        if (kind == 0) {
            return from(0, 63);
        }
        return kind < 4 ? 63 - random.nextInt(2) : from(0, span);
    }

    private int someone() {
        return from(0, random.nextInt(12) == 0 ? 7 : 5);
    }

    private int last() {
        return random.nextInt(3) == 0 ? from(1, 1000000000) : from(1, 2000);
    }

    private int[] argumentsFor(int which) {
        switch (which) {
            case 0:
                return new int[] {from(2, 5), from(2, 5)};
            case 1:
                return new int[] {someone(), count(), from(-2, 2), from(-2, 2)};
            case 2:
            case 3:
                return new int[] {someone(), count(), random.nextInt(2)};
            case 4:
            case 9:
                return new int[] {random.nextInt(4) == 0 ? from(0, 63) : count()};
            case 6:
                return new int[] {count(), someone(), someone(), someone()};
            case 7:
                return new int[] {from(0, 11), random.nextInt(3) == 0 ? from(0, 4) : 4};
            case 8:
                return new int[] {count(), last()};
            case 10:
                int start = count();
                return new int[] {from(0, 2), from(8, 12), start, start + from(0, 2)};
            case 11:
                return new int[] {from(0, 2), from(8, 20)};
            case 12:
            case 13:
                return new int[] {someone()};
            default:
                return new int[0];
        }
    }

    private String told(boolean byPlain, int which, int[] a) {
        try {
            return Integer.toString(byPlain ? ofPlain(which, a) : ofTested(which, a));
        } catch (RuntimeException e) {
            return e.getClass().getName();
        }
    }

    private int ofTested(int which, int[] a) {
        switch (which) {
            case 0: return tested.dancer(a[0], a[1]);
            case 1: return tested.move(a[0], a[1], a[2], a[3]);
            case 2: return tested.place(a[0], a[1], a[2] == 1);
            case 3: return tested.placeAnew(a[0], a[1], a[2] == 1);
            case 4: return tested.clashes(a[0]);
            case 5: return tested.firstClash();
            case 6: return tested.lift(a[0], a[1], a[2], a[3]);
            case 7: return tested.ofLift(a[0], a[1]);
            case 8: return tested.tempo(a[0], a[1]);
            case 9: return tested.begins(a[0]);
            case 10: return tested.rehearse(a[0], a[1], a[2], a[3]);
            case 11: return tested.rehearsal(a[0], a[1]);
            case 12: return tested.knees(a[0]);
            case 13: return tested.hurt(a[0]);
            default: return tested.sleep();
        }
    }

    private int ofPlain(int which, int[] a) {
        switch (which) {
            case 0: return plain.dancer(a[0], a[1]);
            case 1: return plain.move(a[0], a[1], a[2], a[3]);
            case 2: return plain.place(a[0], a[1], a[2] == 1);
            case 3: return plain.place(a[0], a[1], a[2] == 1);
            case 4: return plain.clashes(a[0]);
            case 5: return plain.firstClash();
            case 6: return plain.lift(a[0], a[1], a[2], a[3]);
            case 7: return plain.ofLift(a[0], a[1]);
            case 8: return plain.tempo(a[0], a[1]);
            case 9: return plain.begins(a[0]);
            case 10: return plain.rehearse(a[0], a[1], a[2], a[3]);
            case 11: return plain.rehearsal(a[0], a[1]);
            case 12: return plain.knees(a[0]);
            case 13: return plain.hurt(a[0]);
            default: return plain.sleep();
        }
    }
}
