/** What the document says of dancers who are hurt, promise 15, at its bounds: a test for each sentence. */
public final class HurtBoundsTest {
    private static final int LEAST = Integer.MIN_VALUE;
    private static final int MOST = Integer.MAX_VALUE;
    private static final int NOT_STANDING = 0;
    private static final int STANDING = 1;
    private static final int GONE = 2;
    private static final Checks c = new Checks("HurtBoundsTest");

    public static void main(String[] args) {
        dancers();
        writtenOutForGood();
        liftsOfTheDancer();
        placesInTheLift();
        candidatesAreNotWrittenOut();
        candidatesAreInNoLift();
        inALiftOnAnotherCount();
        inALiftThatIsGone();
        goneInTheSameCall();
        besideNeedsNone();
        lowestNumber();
        twoColumnsAndTwoRowsAway();
        sumsOf(false);
        sumsOf(true);
        wayAndWayBack();
        noWay();
        noNextCount();
        byNumbers();
        nobodyCan();
        nobodyElse();
        mostMoves();
        c.close();
    }

    private static void lift(Stepscript x, int lift, int one, int other, int stands) {
        c.due(one, x, "ofLift", lift, 2);
        c.due(other, x, "ofLift", lift, 3);
        c.due(stands, x, "ofLift", lift, 4);
    }

    private static void where(Stepscript x, int dancer, int count, int column, int row) {
        c.due(column, x, "place", dancer, count, 0);
        c.due(row, x, "place", dancer, count, 1);
        c.due(column, x, "placeAnew", dancer, count, 0);
        c.due(row, x, "placeAnew", dancer, count, 1);
    }

    /** "if there is no such dancer", "if the dancer is written out". */
    private static void dancers() {
        Stepscript x = new Stepscript();
        for (int come = 0; come <= 8; come++) {
            for (int none : new int[] {LEAST, -1, come, come + 1, MOST}) {
                c.noPlace(x, "hurt", none);
            }
            if (come < 8) {
                x.dancer(come, come);
            }
        }
        for (int dancer = 7; dancer >= 0; dancer--) {
            c.due(0, x, "hurt", dancer);
            c.refused(x, "hurt", dancer);
        }
    }

    /** "A dancer who is hurt is written out, for good." */
    private static void writtenOutForGood() {
        Stepscript x = Houses.at(0, 0, 1, 0, 0, 1, 1, 1);
        x.lift(5, 0, 1, 2);
        c.due(0, x, "hurt", 3);
        for (int day = 1; day <= 30; day++) {
            c.due(day, x, "sleep");
            c.refused(x, "hurt", 3);
            c.refused(x, "move", 3, 0, 0, 0);
            c.refused(x, "lift", 0, 3, 0, 1);
        }
        c.due(0, x, "hurt", 1);
        lift(x, 0, 1, 2, GONE);
    }

    /** "Lifts of the dancer are gone." */
    private static void liftsOfTheDancer() {
        Stepscript x = Houses.at(3, 3, 4, 3, 3, 4, 2, 2, 2, 3);
        for (int lift = 0; lift < 12; lift++) {
            x.lift(5 * lift, lift % 2 == 0 ? 0 : 3, lift % 2 == 0 ? 1 : 0, 2);
        }
        c.due(0, x, "hurt", 1);
        for (int lift = 0; lift < 12; lift++) {
            c.due(lift % 2 == 0 ? STANDING : NOT_STANDING, x, "ofLift", lift, 4);
        }
        c.due(0, x, "hurt", 0);
        for (int lift = 0; lift < 12; lift++) {
            boolean gone = lift % 2 == 0;
            lift(x, lift, gone ? 3 : 4, 2, gone ? GONE : NOT_STANDING);
            c.due(gone ? 0 : 3, x, "ofLift", lift, 1);
        }
    }

    /** "For each other lift in which the dancer lifts .. another one takes the place": the first one's, or the other's. */
    private static void placesInTheLift() {
        Stepscript x = Houses.at(3, 3, 4, 3, 3, 4, 2, 2);
        x.lift(0, 0, 1, 2);
        x.lift(63, 0, 2, 1);
        x.lift(7, 0, 2, 3);
        c.due(0, x, "hurt", 1);
        lift(x, 0, 3, 2, STANDING);
        lift(x, 1, 2, 3, STANDING);
        lift(x, 2, 2, 3, STANDING);
        c.due(0, x, "ofLift", 0, 0);
        c.due(63, x, "ofLift", 1, 0);
        c.due(0, x, "ofLift", 1, 1);
    }

    /** "of those who are not written out". */
    private static void candidatesAreNotWrittenOut() {
        Stepscript x = Houses.at(3, 3, 4, 3, 3, 4, 2, 2, 2, 3, 2, 4);
        x.lift(5, 0, 1, 2);
        c.due(0, x, "hurt", 3);
        c.due(0, x, "hurt", 4);
        c.due(0, x, "hurt", 1);
        lift(x, 0, 5, 2, STANDING);
        c.due(0, x, "hurt", 5);
        lift(x, 0, 5, 2, GONE);
    }

    /** "and in no lift on that count": neither lifted nor lifting, whether it stands or not. */
    private static void candidatesAreInNoLift() {
        for (int role = 0; role < 3; role++) {
            // 3 is beside 0; 6 and 7 are far away, so that the lift of the three does not stand.
            Stepscript x = Houses.at(3, 3, 4, 3, 3, 4, 2, 2, 2, 3, 7, 7, 0, 7, 7, 0);
            x.lift(5, role == 0 ? 3 : 6, role == 1 ? 3 : role == 0 ? 6 : 7, role == 2 ? 3 : 7);
            x.lift(5, 0, 1, 2);
            c.due(NOT_STANDING, x, "ofLift", 0, 4);
            c.due(0, x, "hurt", 1);
            lift(x, 1, 4, 2, STANDING);
        }
        // Who is in the lift itself cannot take the place too: of 0 and 2 neither can.
        Stepscript x = Houses.at(3, 3, 4, 3, 3, 4);
        x.lift(5, 0, 1, 2);
        c.due(0, x, "hurt", 1);
        lift(x, 0, 1, 2, GONE);
    }

    /** ".. on that count": a lift on the count ahead or on the next one keeps nobody. */
    private static void inALiftOnAnotherCount() {
        for (int count = 4; count <= 6; count++) {
            Stepscript x = Houses.at(3, 3, 4, 3, 3, 4, 2, 2, 2, 3, 7, 7, 0, 7);
            x.lift(count, 3, 5, 6);
            x.lift(5, 0, 1, 2);
            c.due(0, x, "hurt", 1);
            lift(x, 1, count == 5 ? 4 : 3, 2, STANDING);
        }
    }

    /** A lift that is gone is none: it keeps nobody, and nobody takes a place in it. */
    private static void inALiftThatIsGone() {
        Stepscript x = Houses.at(3, 3, 4, 3, 3, 4, 2, 2, 2, 3, 7, 7);
        x.lift(5, 5, 3, 1);
        x.lift(5, 0, 1, 2);
        c.due(0, x, "hurt", 5);
        lift(x, 0, 3, 1, GONE);
        c.due(0, x, "hurt", 1);
        lift(x, 0, 3, 1, GONE);
        lift(x, 1, 3, 2, STANDING);
    }

    /** "Lifts of the dancer are gone" first: those in them can take the place in a lift with a lower number. */
    private static void goneInTheSameCall() {
        Stepscript x = Houses.at(3, 3, 4, 3, 3, 4, 2, 2, 2, 3);
        x.lift(5, 0, 1, 2);
        x.lift(5, 1, 3, 4);
        c.due(0, x, "hurt", 1);
        lift(x, 0, 3, 2, STANDING);
        lift(x, 1, 3, 4, GONE);
        // 2 is in the lift 0, which nobody can save; so it is free for the lift 1.
        Stepscript y = Houses.at(3, 3, 4, 3, 0, 0, 7, 7, 2, 2, 0, 7);
        y.lift(63, 3, 1, 2);
        y.lift(63, 0, 1, 4);
        y.move(2, 0, 2, 2);
        y.move(2, 1, 0, 1);
        c.due(0, y, "hurt", 1);
        lift(y, 0, 1, 2, GONE);
        lift(y, 1, 2, 4, STANDING);
    }

    /** "the one who needs the fewest moves: none, if beside the one who is lifted at that count; otherwise 2". */
    private static void besideNeedsNone() {
        // 3 could come with two moves, and 4 is beside.
        Stepscript x = Houses.at(3, 3, 4, 3, 3, 4, 5, 3, 2, 2);
        x.lift(5, 0, 1, 2);
        c.due(0, x, "hurt", 1);
        lift(x, 0, 4, 2, STANDING);
        where(x, 3, 5, 5, 3);
        where(x, 4, 5, 2, 2);
        for (int columns = -2; columns <= 2; columns++) {
            for (int rows = -2; rows <= 2; rows++) {
                boolean same = columns == 0 && rows == 0;
                boolean beside = !same && Math.abs(columns) <= 1 && Math.abs(rows) <= 1;
                // 3 is so far from 0 at the count 63, where nobody can come with 2 moves.
                Stepscript y = Houses.at(3, 3, 4, 3, 3, 4, 0, 0);
                y.move(3, 61, 1, 1);
                y.move(3, 62, 2, 2);
                y.move(3, 63, columns, rows);
                y.lift(63, 0, 1, 2);
                c.due(0, y, "hurt", 1);
                lift(y, 0, beside ? 3 : 1, 2, beside ? STANDING : GONE);
            }
        }
        // Beside at the count ahead, or at the next one, is not beside at that count.
        for (int moved = 4; moved <= 6; moved++) {
            Stepscript y = Houses.at(3, 3, 4, 3, 3, 4, 1, 2);
            y.move(3, moved, 1, 0);
            if (moved < 5) {
                y.move(3, 5, -1, 0);
            }
            y.lift(5, 0, 1, 2);
            c.due(0, y, "hurt", 1);
            lift(y, 0, moved == 5 ? 3 : 1, 2, moved == 5 ? STANDING : GONE);
        }
    }

    /** "of several the lowest number". */
    private static void lowestNumber() {
        for (int first = 3; first < 8; first++) {
            // From the first on, all are beside 0.
            Stepscript x = Houses.at(3, 3, 4, 3, 3, 4);
            int[][] beside = {{2, 2}, {3, 2}, {4, 2}, {2, 3}, {2, 4}};
            for (int dancer = 3; dancer < 8; dancer++) {
                x.dancer(dancer < first ? dancer : beside[dancer - 3][0], dancer < first ? 7 : beside[dancer - 3][1]);
            }
            x.lift(5, 0, 1, 2);
            c.due(0, x, "hurt", 1);
            lift(x, 0, first, 2, STANDING);
            // From the first on, all can come with 2 moves.
            Stepscript y = Houses.at(3, 3, 4, 3, 3, 4);
            int[][] near = {{5, 1}, {6, 1}, {5, 2}, {6, 5}, {6, 3}};
            for (int dancer = 3; dancer < 8; dancer++) {
                y.dancer(dancer < first ? dancer : near[dancer - 3][0], dancer < first ? 7 : near[dancer - 3][1]);
            }
            y.lift(5, 0, 1, 2);
            c.due(2, y, "hurt", 1);
            lift(y, 0, first, 2, STANDING);
            for (int dancer = 3; dancer < 8; dancer++) {
                c.due(dancer == first ? 2 : 0, y, "move", dancer, 20, 0, 0);
            }
        }
        // 0 and 1 themselves can be the lowest ones.
        Stepscript x = Houses.at(2, 2, 2, 3, 3, 3, 4, 3, 3, 4);
        x.lift(5, 2, 3, 4);
        c.due(0, x, "hurt", 3);
        lift(x, 0, 0, 4, STANDING);
        c.due(0, x, "hurt", 4);
        lift(x, 0, 0, 1, STANDING);
    }

    /** "if the place of the one who is hurt, at that count, is at most 2 columns and 2 rows away from theirs". */
    private static void twoColumnsAndTwoRowsAway() {
        for (int columns = -3; columns <= 3; columns++) {
            for (int rows = -3; rows <= 3; rows++) {
                Stepscript x = Houses.at(0, 0, 3, 3, 0, 1, 4, 4);
                x.move(0, 0, -2, -2);
                x.move(0, 1, -2, -2);
                // With these moves on the count and on the next one the sums would fit for 3 columns or rows too.
                x.move(3, 5, -columns / 2, -rows / 2);
                x.move(3, 6, columns / 2, rows / 2);
                goAhead(x, 3 - columns + columns / 2, 3 - rows + rows / 2);
                where(x, 3, 5, 3 - columns, 3 - rows);
                x.lift(5, 0, 1, 2);
                boolean can = Math.abs(columns) <= 2 && Math.abs(rows) <= 2;
                c.due(can ? 2 : 0, x, "hurt", 1);
                lift(x, 0, can ? 3 : 1, 2, can ? NOT_STANDING : GONE);
                where(x, 3, 5, can ? 3 : 3 - columns, can ? 3 : 3 - rows);
            }
        }
        // It is the place at that count, not the first one, nor that at the count ahead.
        Stepscript x = Houses.at(7, 7, 0, 0, 7, 6, 3, 0);
        x.move(1, 5, 1, 0);
        x.move(1, 6, -1, 0);
        x.lift(5, 0, 1, 2);
        x.lift(4, 0, 2, 1);
        x.lift(6, 0, 2, 1);
        c.due(2, x, "hurt", 1);
        lift(x, 0, 3, 2, NOT_STANDING);
        lift(x, 1, 2, 1, GONE);
        lift(x, 2, 2, 1, GONE);
        where(x, 3, 5, 1, 0);
        where(x, 3, 6, 3, 0);
    }

    /** 3 goes from its first place (4, 4) to another one by two moves. */
    private static void goAhead(Stepscript x, int column, int row) {
        x.move(3, 0, (column - 4) / 2, (row - 4) / 2);
        x.move(3, 1, column - 4 - (column - 4) / 2, row - 4 - (row - 4) / 2);
    }

    /** "added to their move on that count, and taken off their move on the next one, if both sums are from -2 to 2". */
    private static void sumsOf(boolean rows) {
        for (int way = -2; way <= 2; way++) {
            for (int move = -2; move <= 2; move++) {
                for (int next = -2; next <= 2; next++) {
                    sums(way, move, next, rows);
                }
            }
        }
    }

    /** 1 is so far from 3 at the count 5, on which 3 has a move, and another one on the next count. */
    private static void sums(int way, int move, int next, boolean rows) {
        int asked = rows ? 1 : 0;
        Stepscript x = rows ? Houses.at(0, 0, 2, 3, 0, 1, 3, 3) : Houses.at(0, 0, 3, 2, 1, 0, 3, 3);
        x.move(0, 0, -2, -2);
        x.move(0, 1, -2, -2);
        x.move(3, 2, rows ? -1 : 0, rows ? 0 : -1);
        int ahead = -way - move;
        along(x, 0, ahead / 2, rows);
        along(x, 1, ahead - ahead / 2, rows);
        along(x, 5, move, rows);
        along(x, 6, next, rows);
        c.due(3 - way, x, "place", 3, 5, asked);
        x.lift(5, 0, 1, 2);
        boolean can = Math.abs(move + way) <= 2 && Math.abs(next - way) <= 2;
        c.due(can ? 2 : 0, x, "hurt", 1);
        lift(x, 0, can ? 3 : 1, 2, can ? NOT_STANDING : GONE);
        c.due(3 - way - move, x, "place", 3, 4, asked);
        c.due(can ? 3 : 3 - way, x, "placeAnew", 3, 5, asked);
        c.due(3 - way + next, x, "place", 3, 6, asked);
        c.due(3 - way + next, x, "placeAnew", 3, 63, asked);
    }

    private static void along(Stepscript x, int count, int way, boolean rows) {
        x.move(3, count, rows ? 0 : way, rows ? way : 0);
    }

    /** Columns that fit do not help where rows do not, nor the other way round; and nothing is written then. */
    private static void wayAndWayBack() {
        for (int rows = 0; rows < 2; rows++) {
            Stepscript x = rows == 1 ? Houses.at(7, 7, 1, 1, 7, 6, 2, 3) : Houses.at(7, 7, 1, 1, 7, 6, 3, 2);
            x.lift(20, 0, 1, 2);
            // The way of 3 is -2 and -1. With -1 on the next count there is room for the 2 back; with 1 there is none.
            x.move(3, 21, rows == 1 ? 0 : -1, rows == 1 ? -1 : 0);
            c.due(2, x, "hurt", 1);
            where(x, 3, 20, 1, 1);
            Stepscript y = rows == 1 ? Houses.at(7, 7, 1, 1, 7, 6, 2, 3) : Houses.at(7, 7, 1, 1, 7, 6, 3, 2);
            y.lift(20, 0, 1, 2);
            y.move(3, 21, rows == 1 ? 0 : 1, rows == 1 ? 1 : 0);
            c.due(0, y, "hurt", 1);
            lift(y, 0, 1, 2, GONE);
            where(y, 3, 20, rows == 1 ? 2 : 3, rows == 1 ? 3 : 2);
            where(y, 3, 21, rows == 1 ? 2 : 4, rows == 1 ? 4 : 2);
            c.due(1, y, "move", 3, 0, 0, 0);
        }
    }

    /** "(counted as 2 also if that way is none)". */
    private static void noWay() {
        Stepscript x = Houses.at(0, 0, 5, 5, 0, 1, 6, 5);
        x.move(3, 2, -1, 0);
        x.move(3, 5, 2, -2);
        x.move(3, 4, -2, 2);
        x.lift(5, 0, 1, 2);
        x.lift(63, 0, 1, 2);
        c.due(2, x, "hurt", 1);
        lift(x, 0, 3, 2, NOT_STANDING);
        lift(x, 1, 1, 2, GONE);
        where(x, 3, 4, 3, 7);
        where(x, 3, 5, 5, 5);
        where(x, 3, 6, 5, 5);
        c.due(3, x, "move", 3, 20, 0, 0);
        // None is fewer than 2 that are no way: 4 is beside 0.
        Stepscript y = Houses.at(0, 0, 5, 5, 0, 1, 6, 5, 1, 0);
        y.move(3, 2, -1, 0);
        y.lift(5, 0, 1, 2);
        c.due(0, y, "hurt", 1);
        lift(y, 0, 4, 2, STANDING);
    }

    /** "and there is a next one; otherwise they cannot". */
    private static void noNextCount() {
        for (int count = 0; count < 64; count++) {
            Stepscript x = Houses.at(3, 3, 4, 3, 3, 4, 5, 2);
            x.lift(count, 0, 1, 2);
            boolean can = count < 63;
            c.due(can ? 2 : 0, x, "hurt", 1);
            lift(x, 0, can ? 3 : 1, 2, can ? STANDING : GONE);
            where(x, 3, count, can ? 4 : 5, can ? 3 : 2);
            where(x, 3, 63, 5, 2);
            if (count > 0) {
                where(x, 3, count - 1, 5, 2);
            }
            if (count < 63) {
                where(x, 3, count + 1, 5, 2);
            }
            c.due(can ? 2 : 0, x, "move", 3, (count + 30) % 64, 0, 0);
        }
        // Who is beside needs no next count.
        Stepscript x = Houses.at(3, 3, 4, 3, 3, 4, 2, 2);
        x.lift(63, 0, 1, 2);
        c.due(0, x, "hurt", 1);
        lift(x, 0, 3, 2, STANDING);
    }

    /** "by numbers": whoever takes the place in the first lift cannot in the second one on that count. */
    private static void byNumbers() {
        for (int order = 0; order < 2; order++) {
            Stepscript x = Houses.at(3, 3, 4, 3, 3, 4, 5, 3, 5, 4, 4, 4);
            x.lift(20, order == 0 ? 0 : 3, 1, order == 0 ? 2 : 4);
            x.lift(20, order == 0 ? 3 : 0, 1, order == 0 ? 4 : 2);
            c.due(0, x, "hurt", 1);
            lift(x, 0, 5, order == 0 ? 2 : 4, STANDING);
            lift(x, 1, 1, order == 0 ? 4 : 2, GONE);
        }
        // The way back of the first one is a move that the second one, on the next count, starts from.
        Stepscript x = Houses.at(3, 3, 4, 3, 3, 4, 6, 3);
        x.lift(20, 0, 1, 2);
        x.lift(21, 0, 1, 2);
        c.due(4, x, "hurt", 1);
        where(x, 3, 20, 4, 3);
        where(x, 3, 21, 4, 3);
        where(x, 3, 22, 6, 3);
        c.due(2, x, "move", 3, 5, 0, 0);
        // The other way round it comes to the same.
        Stepscript y = Houses.at(3, 3, 4, 3, 3, 4, 6, 3);
        y.lift(21, 0, 1, 2);
        y.lift(20, 0, 1, 2);
        c.due(4, y, "hurt", 1);
        where(y, 3, 20, 4, 3);
        where(y, 3, 21, 4, 3);
    }

    /** "If nobody can, the lift is gone." */
    private static void nobodyCan() {
        Stepscript x = Houses.at(3, 3, 4, 3, 3, 4, 7, 7, 0, 7, 7, 0, 0, 0, 1, 7);
        x.lift(20, 0, 1, 2);
        x.lift(21, 0, 2, 1);
        c.due(0, x, "hurt", 1);
        lift(x, 0, 1, 2, GONE);
        lift(x, 1, 2, 1, GONE);
        for (int dancer = 0; dancer < 8; dancer++) {
            for (int count = 20; count < 23; count++) {
                c.due(x.place(dancer, 0, false), x, "place", dancer, count, 0);
                c.due(x.place(dancer, 0, true), x, "place", dancer, count, 1);
            }
        }
    }

    /** A dancer in no lift, with nobody else there, or with all others written out. */
    private static void nobodyElse() {
        Stepscript x = Houses.at(3, 3);
        x.move(0, 5, 1, 0);
        c.due(0, x, "hurt", 0);
        where(x, 0, 5, 4, 3);
        x.dancer(0, 0);
        c.due(0, x, "hurt", 1);
        c.refused(x, "hurt", 0);
        c.noPlace(x, "hurt", 2);
    }

    /** "Returns how many moves are written": 12 lifts with 2 each are the most. */
    private static void mostMoves() {
        Stepscript x = Houses.at(3, 3, 4, 3, 3, 4, 6, 5);
        for (int lift = 0; lift < 12; lift++) {
            x.lift(40 + 2 * lift - (lift == 11 ? 1 : 0), 0, lift % 2 == 0 ? 1 : 2, lift % 2 == 0 ? 2 : 1);
        }
        c.due(24, x, "hurt", 1);
        for (int lift = 0; lift < 12; lift++) {
            lift(x, lift, lift % 2 == 0 ? 3 : 2, lift % 2 == 0 ? 2 : 3, STANDING);
        }
        for (int count = 39; count < 64; count++) {
            boolean there = count == 61 || count % 2 == 0 && count >= 40 && count <= 60;
            where(x, 3, count, there ? 4 : 6, there ? 3 : 5);
        }
    }
}
