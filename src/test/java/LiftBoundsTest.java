/** What the document says of lifts, promises 8 and 9, at its bounds: a test for each sentence. */
public final class LiftBoundsTest {
    private static final int LEAST = Integer.MIN_VALUE;
    private static final int MOST = Integer.MAX_VALUE;
    private static final int NOT_STANDING = 0;
    private static final int STANDING = 1;
    private static final int GONE = 2;
    private static final Checks c = new Checks("LiftBoundsTest");

    public static void main(String[] args) {
        nobodyThereYet();
        counts();
        dancers();
        twoAreOne();
        writtenOut();
        twelveLifts();
        whats();
        oneAway();
        offTheStage();
        atThatCount();
        inAnotherLift();
        inAnotherLiftThatIsGone();
        twelveOnOneCount();
        c.close();
    }

    private static void stands(Stepscript x, int lift, int due) {
        c.due(due, x, "ofLift", lift, 4);
    }

    private static void nobodyThereYet() {
        Stepscript x = new Stepscript();
        c.noPlace(x, "lift", 0, 0, 1, 2);
        x.dancer(0, 0);
        c.noPlace(x, "lift", 0, 0, 1, 2);
        x.dancer(1, 0);
        c.noPlace(x, "lift", 0, 0, 1, 2);
        c.noPlace(x, "ofLift", 0, 4);
        x.dancer(0, 1);
        c.due(0, x, "lift", 0, 0, 1, 2);
        stands(x, 0, STANDING);
    }

    /** "There are the counts 0 to 63." */
    private static void counts() {
        for (int count = 0; count < 64; count++) {
            Stepscript x = Houses.at(0, 0, 1, 0, 0, 1);
            c.due(0, x, "lift", count, 0, 1, 2);
            c.due(count, x, "ofLift", 0, 0);
            stands(x, 0, STANDING);
        }
        Stepscript x = Houses.at(0, 0, 1, 0, 0, 1);
        for (int none : new int[] {LEAST, -64, -1, 64, 65, MOST}) {
            c.noPlace(x, "lift", none, 0, 1, 2);
        }
        c.noPlace(x, "ofLift", 0, 0);
    }

    /** "if there is no such count or dancer, of any". */
    private static void dancers() {
        Stepscript x = Houses.at(0, 0, 1, 0, 0, 1);
        for (int come = 3; come <= 8; come++) {
            for (int none : new int[] {LEAST, -1, come, MOST}) {
                c.noPlace(x, "lift", 0, none, 0, 1);
                c.noPlace(x, "lift", 0, 0, none, 1);
                c.noPlace(x, "lift", 0, 0, 1, none);
            }
            c.due(come - 3, x, "lift", come, come - 1, 0, 1);
            c.due(come - 1, x, "ofLift", come - 3, 1);
            if (come < 8) {
                x.dancer(7, come - 1);
            }
        }
        c.due(6, x, "lift", 1, 0, 7, 1);
        c.due(7, x, "ofLift", 6, 2);
        c.due(7, x, "lift", 1, 0, 1, 7);
        c.due(7, x, "ofLift", 7, 3);
    }

    /** "if two of them are one". */
    private static void twoAreOne() {
        Stepscript x = Houses.at(0, 0, 1, 0, 0, 1);
        int written = 0;
        for (int lifted = 0; lifted < 3; lifted++) {
            for (int one = 0; one < 3; one++) {
                for (int other = 0; other < 3; other++) {
                    if (lifted == one || lifted == other || one == other) {
                        c.badArgument(x, "lift", 5, lifted, one, other);
                    } else {
                        c.due(written, x, "lift", 5, lifted, one, other);
                        written++;
                    }
                }
            }
        }
        c.noPlace(x, "ofLift", 6, 0);
    }

    /** "if one is written out": any of the three. */
    private static void writtenOut() {
        for (int out = 0; out < 3; out++) {
            Stepscript x = Houses.at(0, 0, 1, 0, 0, 1, 1, 1);
            c.due(0, x, "hurt", out);
            c.refused(x, "lift", 5, 0, 1, 2);
            c.due(1, x, "sleep");
            c.refused(x, "lift", 5, 0, 1, 2);
            c.due(0, x, "lift", 5, out == 0 ? 3 : 0, out == 1 ? 3 : 1, out == 2 ? 3 : 2);
            stands(x, 0, STANDING);
        }
    }

    /** "Lifts are numbered from 0, at most 12", "or 12 were written". */
    private static void twelveLifts() {
        Stepscript x = Houses.at(0, 0, 1, 0, 0, 1, 7, 7, 7, 6, 6, 7);
        for (int lift = 0; lift < 12; lift++) {
            c.noPlace(x, "ofLift", lift, 0);
            c.due(lift, x, "lift", 63 - lift, lift % 3, (lift + 1) % 3, (lift + 2) % 3);
            for (int told = 0; told <= lift; told++) {
                c.due(63 - told, x, "ofLift", told, 0);
                c.due(told % 3, x, "ofLift", told, 1);
            }
        }
        c.refused(x, "lift", 0, 0, 1, 2);
        c.refused(x, "lift", 0, 3, 4, 5);
        for (int none : new int[] {LEAST, -1, 12, 13, MOST}) {
            c.noPlace(x, "ofLift", none, 0);
        }
        // Those that are gone were written all the same.
        for (int out = 0; out < 3; out++) {
            c.due(0, x, "hurt", out);
        }
        for (int lift = 0; lift < 12; lift++) {
            stands(x, lift, GONE);
        }
        c.refused(x, "lift", 0, 3, 4, 5);
        c.noPlace(x, "ofLift", 12, 4);
    }

    /** "0 its count; .. 4 0 it does not stand, 1 it stands, 2 it is gone". */
    private static void whats() {
        Stepscript x = Houses.at(7, 7, 0, 0, 1, 1, 1, 0);
        c.due(0, x, "lift", 9, 3, 2, 1);
        int[] due = {9, 3, 2, 1, STANDING};
        for (int what = 0; what < 5; what++) {
            c.due(due[what], x, "ofLift", 0, what);
        }
        for (int none : new int[] {LEAST, -1, 5, 6, MOST}) {
            c.badArgument(x, "ofLift", 0, none);
        }
        c.due(0, x, "hurt", 3);
        due[4] = GONE;
        for (int what = 0; what < 5; what++) {
            c.due(due[what], x, "ofLift", 0, what);
        }
        c.badArgument(x, "ofLift", 0, -1);
        c.badArgument(x, "ofLift", 0, 5);
    }

    /** "both are beside ..: at most one column and one row away, and not at the same place". */
    private static void oneAway() {
        for (int columns = -3; columns <= 3; columns++) {
            for (int rows = -3; rows <= 3; rows++) {
                boolean same = columns == 0 && rows == 0;
                boolean near = Math.abs(columns) <= 1 && Math.abs(rows) <= 1;
                // 1 comes from (2, 3) to so many columns and rows away from 0; 2 is beside 0.
                Stepscript x = Houses.at(3, 3, 2, 3, 4, 4);
                x.move(1, 3, (columns + 1) / 2, rows / 2);
                x.move(1, 4, columns + 1 - (columns + 1) / 2, rows - rows / 2);
                x.lift(4, 0, 1, 2);
                stands(x, 0, near && !same ? STANDING : NOT_STANDING);
                Stepscript y = Houses.at(3, 3, 2, 3, 4, 4);
                y.move(1, 3, (columns + 1) / 2, rows / 2);
                y.move(1, 4, columns + 1 - (columns + 1) / 2, rows - rows / 2);
                y.lift(4, 0, 2, 1);
                stands(y, 0, near && !same ? STANDING : NOT_STANDING);
            }
        }
        // The two who lift need not be beside one another, nor apart.
        Stepscript x = Houses.at(3, 3, 2, 2, 4, 4);
        x.lift(4, 0, 1, 2);
        stands(x, 0, STANDING);
        x.move(1, 4, 2, 2);
        stands(x, 0, STANDING);
    }

    /** A lift off the stage stands as well: it is but for the dancers to be beside. */
    private static void offTheStage() {
        Stepscript x = Houses.at(0, 0, 0, 1, 0, 2);
        for (int dancer = 0; dancer < 3; dancer++) {
            x.move(dancer, 0, -2, -2);
        }
        x.move(2, 1, 0, -1);
        x.lift(0, 1, 0, 2);
        x.lift(1, 1, 0, 2);
        stands(x, 0, STANDING);
        stands(x, 1, NOT_STANDING);
        x.move(0, 1, -1, -1);
        stands(x, 1, NOT_STANDING);
        x.move(2, 1, -1, 0);
        x.move(0, 1, 1, 1);
        stands(x, 1, STANDING);
    }

    /** "at that count": not the one ahead, nor the next one. */
    private static void atThatCount() {
        for (int count = 0; count < 64; count++) {
            Stepscript x = Houses.at(3, 3, 5, 3, 3, 4);
            x.lift(count, 0, 1, 2);
            stands(x, 0, NOT_STANDING);
            x.move(1, count, -1, 0);
            stands(x, 0, STANDING);
            x.move(1, count, 0, 0);
            if (count < 63) {
                x.move(1, count + 1, -1, 0);
                stands(x, 0, NOT_STANDING);
            }
            if (count > 0) {
                x.move(1, count - 1, -1, 0);
                x.move(1, count, 1, 0);
                stands(x, 0, NOT_STANDING);
                x.move(1, count, 0, 0);
                stands(x, 0, STANDING);
            }
        }
    }

    /** "none of them is in another lift on that count that is not gone, whether that stands or not". */
    private static void inAnotherLift() {
        for (int mine = 0; mine < 3; mine++) {
            for (int theirs = 0; theirs < 3; theirs++) {
                for (int count = 30; count <= 32; count++) {
                    // 3 and 4 are far away from one another: the second lift never stands.
                    Stepscript x = Houses.at(3, 3, 4, 3, 3, 4, 7, 0, 0, 7);
                    x.lift(31, 0, 1, 2);
                    stands(x, 0, STANDING);
                    x.lift(count, theirs == 0 ? mine : 3, theirs == 1 ? mine : theirs == 0 ? 3 : 4,
                            theirs == 2 ? mine : 4);
                    stands(x, 0, count == 31 ? NOT_STANDING : STANDING);
                    stands(x, 1, NOT_STANDING);
                }
            }
        }
        // Two on one count that share nobody both stand.
        Stepscript x = Houses.at(3, 3, 4, 3, 3, 4, 2, 3, 2, 2, 2, 4);
        x.lift(31, 0, 1, 2);
        x.lift(31, 3, 4, 5);
        stands(x, 0, STANDING);
        stands(x, 1, STANDING);
    }

    /** ".. that is not gone". */
    private static void inAnotherLiftThatIsGone() {
        Stepscript x = Houses.at(3, 3, 4, 3, 3, 4, 7, 7, 7, 6);
        x.lift(31, 0, 1, 2);
        x.lift(31, 3, 4, 2);
        x.lift(31, 3, 1, 4);
        stands(x, 0, NOT_STANDING);
        c.due(0, x, "hurt", 3);
        stands(x, 0, STANDING);
        stands(x, 1, GONE);
        stands(x, 2, GONE);
    }

    /** All of 12 lifts on one count: only where 11 are gone one stands. */
    private static void twelveOnOneCount() {
        Stepscript x = Houses.at(3, 3, 4, 3, 3, 4, 7, 0, 7, 7, 0, 7);
        for (int lift = 0; lift < 12; lift++) {
            c.due(lift, x, "lift", 63, lift == 6 ? 0 : 3, lift == 6 ? 1 : 0, lift == 6 ? 2 : 1);
        }
        for (int lift = 0; lift < 12; lift++) {
            stands(x, lift, NOT_STANDING);
        }
        c.due(0, x, "hurt", 3);
        for (int lift = 0; lift < 12; lift++) {
            stands(x, lift, lift == 6 ? STANDING : GONE);
        }
    }
}
