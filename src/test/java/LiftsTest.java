/** Promises 8, 9 and 15: lift, ofLift, hurt. */
public final class LiftsTest {
    private static final Checks c = new Checks("LiftsTest");

    public static void main(String[] args) {
        liftThrows();
        twelveLifts();
        ofLift();
        standingByPlaces();
        standingByOtherLifts();
        hurtThrows();
        hurtDropsLiftsOf();
        hurtTakesOneBeside();
        hurtTakesOneWhoComes();
        hurtWayMustFit();
        hurtAtTheLastCount();
        hurtWithNoWay();
        hurtPassesOverBusyOnes();
        hurtByNumbers();
        hurtLeavesGoneLifts();
        c.close();
    }

    private static void state(Stepscript x, int lift, int count, int lifted, int one, int other, int stands) {
        int[] want = {count, lifted, one, other, stands};
        for (int what = 0; what < want.length; what++) {
            int asked = what;
            c.due(want[what], "ofLift(" + lift + ", " + what + ")", () -> x.ofLift(lift, asked));
        }
    }

    private static void where(Stepscript x, int dancer, int count, int column, int row) {
        c.due(column, "column of " + dancer + " at " + count, () -> x.place(dancer, count, false));
        c.due(row, "row of " + dancer + " at " + count, () -> x.place(dancer, count, true));
        c.due(column, "column anew", () -> x.placeAnew(dancer, count, false));
        c.due(row, "row anew", () -> x.placeAnew(dancer, count, true));
    }

    private static void liftThrows() {
        Stepscript x = Houses.at(0, 0, 1, 0, 0, 1, 5, 5);
        x.hurt(3);
        c.noPlace("count 64", () -> x.lift(64, 0, 1, 2));
        c.noPlace("count -1", () -> x.lift(-1, 0, 1, 2));
        c.noPlace("lifted 4", () -> x.lift(0, 4, 1, 2));
        c.noPlace("one -1", () -> x.lift(0, 0, -1, 2));
        c.noPlace("other 4", () -> x.lift(0, 0, 1, 4));
        c.badArgument("lifted is one", () -> x.lift(0, 1, 1, 2));
        c.badArgument("lifted is other", () -> x.lift(0, 2, 1, 2));
        c.badArgument("one is other", () -> x.lift(0, 0, 1, 1));
        c.refused("lifted is out", () -> x.lift(0, 3, 1, 2));
        c.refused("one is out", () -> x.lift(0, 0, 3, 2));
        c.refused("other is out", () -> x.lift(0, 0, 1, 3));
        c.noPlace("no dancer ahead of two are one", () -> x.lift(0, 1, 1, 9));
        c.badArgument("two are one ahead of out", () -> x.lift(0, 3, 3, 1));
        c.due(0, "the first number", () -> x.lift(63, 0, 1, 2));
    }

    private static void twelveLifts() {
        Stepscript x = Houses.at(0, 0, 1, 0, 0, 1);
        for (int i = 0; i < 12; i++) {
            int number = i;
            c.due(i, "lift " + i, () -> x.lift(number / 2, 0, 1, 2));
        }
        c.refused("a thirteenth", () -> x.lift(20, 0, 1, 2));
        c.badArgument("two are one ahead of 12", () -> x.lift(20, 0, 1, 1));
        c.noPlace("no such lift", () -> x.ofLift(12, 0));
        x.dancer(7, 7);
        x.dancer(7, 6);
        x.hurt(0);
        c.due(2, "gone", () -> x.ofLift(11, 4));
        c.refused("gone ones were written too", () -> x.lift(20, 1, 3, 4));
    }

    private static void ofLift() {
        Stepscript x = Houses.at(3, 3, 4, 3, 3, 4, 2, 2);
        x.lift(7, 1, 2, 0);
        x.lift(8, 3, 0, 2);
        state(x, 0, 7, 1, 2, 0, 1);
        state(x, 1, 8, 3, 0, 2, 0);
        c.noPlace("lift 2", () -> x.ofLift(2, 0));
        c.noPlace("lift -1", () -> x.ofLift(-1, 0));
        c.badArgument("what 5", () -> x.ofLift(0, 5));
        c.badArgument("what -1", () -> x.ofLift(0, -1));
        c.noPlace("lift ahead of what", () -> x.ofLift(2, 5));
    }

    private static void standingByPlaces() {
        Stepscript x = Houses.at(3, 3, 4, 4, 2, 2);
        x.lift(5, 0, 1, 2);
        c.due(1, "slantwise", () -> x.ofLift(0, 4));
        x.move(1, 5, 1, 0);
        c.due(0, "two columns away", () -> x.ofLift(0, 4));
        x.move(1, 5, 0, 1);
        c.due(0, "two rows away", () -> x.ofLift(0, 4));
        x.move(1, 5, -1, -1);
        c.due(0, "at the same place", () -> x.ofLift(0, 4));
        x.move(1, 5, -1, 0);
        c.due(1, "straight ahead", () -> x.ofLift(0, 4));
        x.move(1, 5, -2, -2);
        c.due(1, "both who lift at one place", () -> x.ofLift(0, 4));
        x.move(1, 5, 0, 0);
        x.move(2, 5, -1, 0);
        c.due(0, "the other one away", () -> x.ofLift(0, 4));
        x.move(2, 6, 1, 0);
        c.due(0, "behind the count is too late", () -> x.ofLift(0, 4));
        x.move(2, 4, 1, 0);
        c.due(1, "ahead of the count", () -> x.ofLift(0, 4));
    }

    private static void standingByOtherLifts() {
        Stepscript x = Houses.at(3, 3, 4, 3, 3, 4, 2, 3, 3, 2, 7, 7, 7, 6);
        x.lift(5, 0, 1, 2);
        x.lift(6, 0, 1, 2);
        c.due(1, "a lift on another count", () -> x.ofLift(0, 4));
        x.lift(5, 5, 6, 2);
        c.due(0, "in one that does not stand", () -> x.ofLift(0, 4));
        c.due(1, "on the other count it stands", () -> x.ofLift(1, 4));
        x.hurt(5);
        c.due(2, "the other one is gone", () -> x.ofLift(2, 4));
        c.due(1, "so it stands again", () -> x.ofLift(0, 4));
        x.lift(5, 0, 3, 4);
        c.due(0, "who is lifted is in another one", () -> x.ofLift(0, 4));
        c.due(0, "both ways", () -> x.ofLift(3, 4));
        Stepscript y = Houses.at(3, 3, 4, 3, 3, 4, 7, 7, 7, 6);
        y.lift(5, 0, 1, 2);
        y.lift(5, 3, 4, 1);
        c.due(0, "the first one who lifts is in another one", () -> y.ofLift(0, 4));
        y.hurt(3);
        c.due(1, "which is gone", () -> y.ofLift(0, 4));
    }

    private static void hurtThrows() {
        Stepscript x = Houses.at(0, 0);
        c.noPlace("dancer 1", () -> x.hurt(1));
        c.noPlace("dancer -1", () -> x.hurt(-1));
        c.due(0, "hurt", () -> x.hurt(0));
        c.refused("hurt again", () -> x.hurt(0));
    }

    private static void hurtDropsLiftsOf() {
        Stepscript x = Houses.at(0, 0, 1, 0, 0, 1, 1, 1);
        x.lift(1, 0, 1, 2);
        x.lift(2, 0, 3, 2);
        x.lift(3, 3, 1, 2);
        c.due(0, "hurt", () -> x.hurt(0));
        state(x, 0, 1, 0, 1, 2, 2);
        state(x, 1, 2, 0, 3, 2, 2);
        state(x, 2, 3, 3, 1, 2, 1);
    }

    private static void hurtTakesOneBeside() {
        // 3 could come with two moves, 4 and 5 are beside already: 4 is the lower one.
        Stepscript x = Houses.at(3, 3, 4, 3, 3, 4, 5, 3, 2, 2, 2, 3);
        x.lift(5, 0, 1, 2);
        c.due(0, "none is needed", () -> x.hurt(1));
        state(x, 0, 5, 0, 4, 2, 1);
        where(x, 4, 5, 2, 2);
        c.due(0, "the other one", () -> x.hurt(2));
        state(x, 0, 5, 0, 4, 5, 1);
        c.due(0, "the one again, by none", () -> x.hurt(5));
        state(x, 0, 5, 0, 4, 5, 2);
    }

    private static void hurtTakesOneWhoComes() {
        // 3 is three columns away, 4 and 5 are two: 4 is the lower one.
        Stepscript x = Houses.at(3, 3, 4, 3, 3, 4, 7, 3, 6, 5, 6, 1);
        x.move(4, 8, 0, 1);
        x.lift(5, 0, 1, 2);
        c.due(2, "two moves", () -> x.hurt(1));
        state(x, 0, 5, 0, 4, 2, 1);
        where(x, 4, 4, 6, 5);
        where(x, 4, 5, 4, 3);
        where(x, 4, 6, 6, 5);
        where(x, 4, 8, 6, 6);
        c.due(4, "counts with moves", () -> x.move(4, 9, 1, 0));
    }

    private static void hurtWayMustFit() {
        // The way of 3 is (-1, 0), that of 4 (-2, 0).
        Stepscript x = Houses.at(3, 3, 4, 3, 3, 4, 7, 3, 6, 5);
        x.move(3, 4, -2, 0);
        x.move(4, 4, 0, -2);
        x.move(3, 6, 2, 0);
        x.lift(5, 0, 1, 2);
        c.due(2, "3 would have 3 on the next count", () -> x.hurt(1));
        state(x, 0, 5, 0, 4, 2, 1);
        where(x, 3, 5, 5, 3);
        Stepscript y = Houses.at(3, 3, 4, 3, 3, 4, 7, 3);
        y.move(3, 5, -2, 0);
        y.lift(5, 0, 1, 2);
        c.due(0, "the sum on the count is beyond -2", () -> y.hurt(1));
        state(y, 0, 5, 0, 1, 2, 2);
        where(y, 3, 5, 5, 3);
        Stepscript z = Houses.at(3, 3, 4, 3, 3, 4, 7, 3);
        z.move(3, 5, -1, 0);
        z.move(3, 6, -1, 2);
        z.lift(5, 0, 1, 2);
        c.due(0, "-1 and -2", () -> z.hurt(1));
        Stepscript w = Houses.at(3, 3, 4, 3, 3, 4, 5, 5);
        w.move(3, 5, 1, 0);
        w.move(3, 6, -2, 0);
        w.lift(5, 0, 1, 2);
        c.due(2, "sums just within", () -> w.hurt(1));
        where(w, 3, 5, 4, 3);
        where(w, 3, 6, 4, 5);
        where(w, 3, 63, 4, 5);
        Stepscript v = Houses.at(3, 3, 4, 3, 3, 4, 4, 6);
        v.lift(5, 0, 1, 2);
        c.due(0, "three rows away", () -> v.hurt(1));
        state(v, 0, 5, 0, 1, 2, 2);
        Stepscript u = Houses.at(3, 3, 4, 3, 3, 4, 4, 5);
        u.move(3, 5, 0, 1);
        u.move(3, 6, 0, -1);
        u.lift(5, 0, 1, 2);
        c.due(0, "three rows away, though both sums would fit", () -> u.hurt(1));
        state(u, 0, 5, 0, 1, 2, 2);
    }

    private static void hurtAtTheLastCount() {
        Stepscript x = Houses.at(3, 3, 4, 3, 3, 4, 5, 3);
        x.lift(63, 0, 1, 2);
        c.due(0, "no count behind it", () -> x.hurt(1));
        state(x, 0, 63, 0, 1, 2, 2);
        where(x, 3, 63, 5, 3);
        Stepscript y = Houses.at(3, 3, 4, 3, 3, 4, 5, 3);
        y.lift(62, 0, 1, 2);
        c.due(2, "the last but one", () -> y.hurt(1));
        where(y, 3, 62, 4, 3);
        where(y, 3, 63, 5, 3);
        Stepscript z = Houses.at(3, 3, 4, 3, 3, 4, 2, 2);
        z.lift(63, 0, 1, 2);
        c.due(0, "who is beside needs no next count", () -> z.hurt(1));
        state(z, 0, 63, 0, 3, 2, 1);
    }

    private static void hurtWithNoWay() {
        // 3 is at the place of 1, which is not beside 0.
        Stepscript x = Houses.at(0, 0, 4, 3, 0, 1, 5, 3);
        x.move(3, 2, -1, 0);
        x.lift(5, 0, 1, 2);
        c.due(2, "counted as 2", () -> x.hurt(1));
        state(x, 0, 5, 0, 3, 2, 0);
        where(x, 3, 6, 4, 3);
        c.due(1, "no move more", () -> x.move(3, 20, 0, 0));
        Stepscript y = Houses.at(0, 0, 4, 3, 0, 1, 5, 3);
        y.move(3, 2, -1, 0);
        y.lift(63, 0, 1, 2);
        c.due(0, "but a next count must be", () -> y.hurt(1));
        state(y, 0, 63, 0, 1, 2, 2);
    }

    private static void hurtPassesOverBusyOnes() {
        Stepscript x = Houses.at(3, 3, 4, 3, 3, 4, 2, 2, 2, 3, 7, 7, 2, 4);
        x.lift(5, 3, 4, 5);
        x.lift(5, 0, 1, 2);
        c.due(0, "3 and 4 are in a lift on that count", () -> x.hurt(1));
        state(x, 1, 5, 0, 6, 2, 1);
        c.due(0, "6 too, and 1 is out", () -> x.hurt(2));
        state(x, 1, 5, 0, 6, 2, 2);
        // With the lift 0 alone left, those of the gone one are free again.
        c.due(0, "6 is free again", () -> x.hurt(4));
        state(x, 0, 5, 3, 0, 5, 0);
    }

    private static void hurtByNumbers() {
        // Both lifts lose 1; 5 is the only one for either, and the first lift gets it.
        Stepscript x = Houses.at(3, 3, 4, 3, 3, 4, 5, 2, 6, 7, 4, 4);
        x.lift(5, 0, 2, 1);
        x.lift(5, 3, 1, 4);
        c.due(0, "hurt", () -> x.hurt(1));
        state(x, 0, 5, 0, 2, 5, 1);
        state(x, 1, 5, 3, 1, 4, 2);
        for (int first = 5; first <= 6; first++) {
            hurtOnTwoCounts(first);
        }
    }

    /** 3 can come on count 6 only after the way back of coming on count 5 was written there. */
    private static void hurtOnTwoCounts(int first) {
        Stepscript x = Houses.at(3, 3, 5, 3, 3, 4, 5, 5);
        x.move(1, 6, 0, -1);
        x.move(3, 6, 0, -2);
        x.lift(first, 0, 1, 2);
        x.lift(11 - first, 0, 2, 1);
        boolean both = first == 5;
        c.due(both ? 4 : 2, "hurt, the first lift on " + first, () -> x.hurt(1));
        c.due(both ? 3 : 1, "on count 6", () -> both ? x.ofLift(1, 3) : x.ofLift(0, 2));
        c.due(both ? 0 : 2, "on count 6", () -> x.ofLift(both ? 1 : 0, 4));
        c.due(3, "on count 5", () -> both ? x.ofLift(0, 2) : x.ofLift(1, 3));
        c.due(0, "on count 5", () -> x.ofLift(both ? 0 : 1, 4));
        where(x, 3, 4, 5, 5);
        where(x, 3, 5, 5, 3);
        where(x, 3, 6, 5, both ? 2 : 3);
        where(x, 3, 7, 5, 3);
    }

    private static void hurtLeavesGoneLifts() {
        Stepscript x = Houses.at(3, 3, 4, 3, 3, 4, 2, 2);
        x.lift(5, 0, 1, 2);
        x.hurt(0);
        c.due(0, "hurt", () -> x.hurt(1));
        state(x, 0, 5, 0, 1, 2, 2);
        where(x, 3, 5, 2, 2);
    }
}
