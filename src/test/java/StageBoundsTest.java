/** What the document says of moves and places, promises 1 to 7, at its bounds: a test for each sentence. */
public final class StageBoundsTest {
    private static final int LEAST = Integer.MIN_VALUE;
    private static final int MOST = Integer.MAX_VALUE;
    private static final Checks c = new Checks("StageBoundsTest");

    public static void main(String[] args) {
        nobodyThereYet();
        twoObjects();
        stage();
        eightDancers();
        firstPlaces();
        counts();
        waysOfMoves();
        movesAreCounted();
        placesAtCounts();
        placesOffTheStage();
        clashesAtTheEdges();
        clashesOfTwo();
        clashesByChange();
        clashesAheadOfCount0();
        allAtOnePlace();
        clashesOfWrittenOut();
        firstAndLastClash();
        lastCall();
        c.close();
    }

    /** "No dancers, the day 0." */
    private static void nobodyThereYet() {
        Stepscript x = new Stepscript();
        c.due(-1, x, "firstClash");
        for (int count = 0; count < 64; count++) {
            c.due(0, x, "clashes", count);
            c.due(500 * count, x, "begins", count);
        }
        for (int hour = 8; hour <= 20; hour++) {
            for (int room = 0; room < 3; room++) {
                c.due(-1, x, "rehearsal", room, hour);
            }
        }
        noDancer(x, 0);
        c.noPlace(x, "ofLift", 0, 0);
        c.due(1, x, "sleep");
        noDancer(x, 0);
        c.due(0, x, "rehearse", 0, 8, 0, 63);
    }

    private static void noDancer(Stepscript x, int dancer) {
        c.noPlace(x, "move", dancer, 0, 0, 0);
        c.noPlace(x, "place", dancer, 0, 0);
        c.noPlace(x, "place", dancer, 0, 1);
        c.noPlace(x, "placeAnew", dancer, 0, 0);
        c.noPlace(x, "placeAnew", dancer, 0, 1);
        c.noPlace(x, "knees", dancer);
        c.noPlace(x, "hurt", dancer);
        c.noPlace(x, "lift", 0, dancer, 0, 1);
        c.noPlace(x, "lift", 0, 0, dancer, 1);
        c.noPlace(x, "lift", 0, 0, 1, dancer);
    }

    private static void twoObjects() {
        Stepscript x = Houses.made(Houses.full());
        Stepscript y = new Stepscript();
        c.noPlace(y, "place", 0, 0, 0);
        c.noPlace(y, "ofLift", 0, 0);
        c.due(31500, y, "begins", 63);
        c.due(-1, y, "rehearsal", 0, 8);
        c.due(1, y, "sleep");
        c.due(0, y, "dancer", 0, 0);
        c.due(0, y, "hurt", 0);
        c.due(1, x, "move", 0, 1, 1, 0);
    }

    /** "The stage has 8 columns and 8 rows, 0 to 7." */
    private static void stage() {
        for (int column = 0; column < 8; column++) {
            for (int row = 0; row < 8; row++) {
                Stepscript x = new Stepscript();
                c.due(0, x, "dancer", column, row);
                c.due(column, x, "place", 0, 0, 0);
                c.due(row, x, "place", 0, 0, 1);
                c.due(0, x, "clashes", 0);
            }
        }
        Stepscript x = new Stepscript();
        for (int off : new int[] {LEAST, -8, -1, 8, 9, MOST}) {
            for (int on : new int[] {0, 3, 7}) {
                c.noPlace(x, "dancer", off, on);
                c.noPlace(x, "dancer", on, off);
            }
            c.noPlace(x, "dancer", off, off);
        }
        noDancer(x, 0);
        c.due(0, x, "dancer", 0, 0);
    }

    /** "Dancers are numbered from 0, at most 8", "or there are 8". */
    private static void eightDancers() {
        Stepscript x = new Stepscript();
        for (int dancer = 0; dancer < 8; dancer++) {
            noDancer(x, dancer);
            noDancer(x, dancer + 1);
            noDancer(x, -1);
            c.due(dancer, x, "dancer", dancer, 7 - dancer);
            c.due(dancer, x, "place", dancer, 63, 0);
            c.due(7 - dancer, x, "placeAnew", dancer, 63, 1);
            c.due(0, x, "knees", dancer);
            c.due(1, x, "move", dancer, 63, 0, 1);
        }
        c.refused(x, "dancer", 0, 0);
        noDancer(x, 8);
        noDancer(x, LEAST);
        noDancer(x, MOST);
        for (int dancer = 0; dancer < 8; dancer++) {
            c.due(0, x, "hurt", dancer);
        }
        c.refused(x, "dancer", 0, 0);
        noDancer(x, 8);
    }

    /** "each with a first place, which no other one has", "if it is the first place of another one". */
    private static void firstPlaces() {
        Stepscript x = Houses.at(0, 0, 7, 7, 3, 4);
        c.refused(x, "dancer", 0, 0);
        c.refused(x, "dancer", 7, 7);
        c.refused(x, "dancer", 3, 4);
        c.due(1, x, "move", 0, 0, 2, 0);
        c.refused(x, "dancer", 0, 0);
        c.due(3, x, "dancer", 2, 0);
        c.due(0, x, "hurt", 1);
        c.refused(x, "dancer", 7, 7);
        c.due(4, x, "dancer", 3, 7);
        c.due(5, x, "dancer", 7, 4);
        c.due(6, x, "dancer", 4, 3);
        c.due(7, x, "dancer", 3, 3);
        c.refused(x, "dancer", 3, 3);
    }

    /** "There are the counts 0 to 63." */
    private static void counts() {
        Stepscript x = Houses.at(3, 3);
        for (int none : new int[] {LEAST, -64, -1, 64, 65, MOST}) {
            c.noPlace(x, "move", 0, none, 1, 1);
            c.noPlace(x, "place", 0, none, 0);
            c.noPlace(x, "place", 0, none, 1);
            c.noPlace(x, "placeAnew", 0, none, 0);
            c.noPlace(x, "placeAnew", 0, none, 1);
            c.noPlace(x, "clashes", none);
        }
        for (int count = 0; count < 64; count++) {
            c.due(count + 1, x, "move", 0, count, count % 2 == 0 ? 1 : -1, 0);
            c.due(count % 2 == 0 ? 4 : 3, x, "place", 0, count, 0);
            c.due(count % 2 == 0 ? 4 : 3, x, "placeAnew", 0, count, 0);
            c.due(0, x, "clashes", count);
        }
    }

    /** "A move of a dancer on a count is so many columns and rows, -2 to 2 each". */
    private static void waysOfMoves() {
        Stepscript x = Houses.at(3, 3);
        for (int columns = -2; columns <= 2; columns++) {
            for (int rows = -2; rows <= 2; rows++) {
                c.due(columns == 0 && rows == 0 ? 0 : 1, x, "move", 0, 0, columns, rows);
                c.due(3 + columns, x, "place", 0, 63, 0);
                c.due(3 + rows, x, "place", 0, 63, 1);
            }
        }
        for (int far : new int[] {LEAST, -4, -3, 3, 4, MOST}) {
            for (int near : new int[] {-2, 0, 2}) {
                c.badArgument(x, "move", 0, 0, far, near);
                c.badArgument(x, "move", 0, 0, near, far);
            }
            c.badArgument(x, "move", 0, 0, far, far);
        }
        c.due(5, x, "place", 0, 0, 0);
        c.due(5, x, "place", 0, 0, 1);
    }

    /** "one move at most on a count, (0, 0) without"; "how many counts on which the dancer has a move other". */
    private static void movesAreCounted() {
        Stepscript x = Houses.at(0, 0, 7, 7);
        c.due(0, x, "move", 0, 0, 0, 0);
        c.due(0, x, "move", 0, 63, 0, 0);
        for (int count = 0; count < 64; count++) {
            c.due(count + 1, x, "move", 0, count, 0, 1);
        }
        for (int count = 0; count < 64; count++) {
            c.due(64, x, "move", 0, count, -1, 0);
        }
        c.due(0, x, "move", 1, 0, 0, 0);
        for (int count = 63; count >= 0; count--) {
            c.due(count, x, "move", 0, count, 0, 0);
        }
        c.due(0, x, "place", 0, 63, 0);
        c.due(0, x, "place", 0, 63, 1);
    }

    /** "The place of a dancer at a count is the first place, and all moves on counts up to that, it included". */
    private static void placesAtCounts() {
        for (int count = 0; count < 64; count++) {
            Stepscript x = Houses.at(3, 4, 0, 0);
            c.due(1, x, "move", 0, count, 2, -1);
            for (int at = Math.max(0, count - 1); at <= Math.min(63, count + 1); at++) {
                boolean moved = at >= count;
                c.due(moved ? 5 : 3, x, "place", 0, at, 0);
                c.due(moved ? 3 : 4, x, "place", 0, at, 1);
                c.due(moved ? 5 : 3, x, "placeAnew", 0, at, 0);
                c.due(moved ? 3 : 4, x, "placeAnew", 0, at, 1);
            }
            c.due(count == 0 ? 5 : 3, x, "placeAnew", 0, 0, 0);
            c.due(5, x, "place", 0, 63, 0);
            c.due(0, x, "place", 1, 63, 0);
        }
    }

    /** "it may be off the stage", "perhaps off the stage". */
    private static void placesOffTheStage() {
        Stepscript x = Houses.at(0, 7, 7, 0);
        for (int count = 0; count < 64; count++) {
            c.due(count + 1, x, "move", 0, count, -2, 2);
            c.due(count + 1, x, "move", 1, count, 2, -2);
        }
        int[][] due = {{0, -2, 9}, {1, -4, 11}, {62, -126, 133}, {63, -128, 135}};
        for (int[] at : due) {
            for (String name : new String[] {"place", "placeAnew"}) {
                c.due(at[1], x, name, 0, at[0], 0);
                c.due(at[2], x, name, 0, at[0], 1);
                c.due(at[2], x, name, 1, at[0], 0);
                c.due(at[1], x, name, 1, at[0], 1);
            }
        }
    }

    /** "A clash at a count is a dancer who is off the stage". */
    private static void clashesAtTheEdges() {
        for (int away = 1; away <= 4; away++) {
            for (int side = -1; side <= 1; side += 2) {
                // From 1 and from 6 it is one step to the last place of the stage.
                int first = side < 0 ? 1 : 6;
                int due = away > 1 ? 1 : 0;
                for (int rows = 0; rows < 2; rows++) {
                    Stepscript x = rows == 1 ? Houses.at(3, first) : Houses.at(first, 3);
                    int one = side * Math.min(away, 2);
                    int two = side * away - one;
                    x.move(0, 0, rows == 1 ? 0 : one, rows == 1 ? one : 0);
                    x.move(0, 1, rows == 1 ? 0 : two, rows == 1 ? two : 0);
                    c.due(due, x, "clashes", 1);
                    c.due(due, x, "clashes", 63);
                }
            }
        }
        Stepscript x = Houses.at(0, 0);
        x.move(0, 5, -1, -1);
        c.due(1, x, "clashes", 5);
        x.move(0, 6, 1, 0);
        c.due(1, x, "clashes", 6);
        x.move(0, 6, 0, 1);
        c.due(1, x, "clashes", 6);
        x.move(0, 6, 1, 1);
        c.due(0, x, "clashes", 6);
    }

    /** "or two who are at one place". */
    private static void clashesOfTwo() {
        for (int columns = -1; columns <= 1; columns++) {
            for (int rows = -1; rows <= 1; rows++) {
                Stepscript x = Houses.at(3, 3, 5, 5);
                x.move(1, 62, -1, -1);
                x.move(1, 63, columns, rows);
                c.due(columns == -1 && rows == -1 ? 1 : 0, x, "clashes", 63);
            }
        }
        Stepscript x = Houses.at(0, 0, 1, 0);
        x.move(1, 0, -1, 0);
        c.due(1, x, "clashes", 0);
        // Both stay there, so each is also where the other one was: still one clash.
        c.due(1, x, "clashes", 1);
        c.due(1, x, "clashes", 63);
        x.move(1, 1, 0, 1);
        c.due(0, x, "clashes", 1);
        x.move(1, 1, -1, 0);
        x.move(0, 1, -1, 0);
        c.due(3, x, "clashes", 1);
    }

    /** "or two each of whom is at the place at which the other one was at the count ahead". */
    private static void clashesByChange() {
        for (int count = 0; count < 64; count++) {
            Stepscript x = Houses.at(3, 3, 5, 4);
            x.move(0, count, 2, 1);
            x.move(1, count, -2, -1);
            c.due(1, x, "clashes", count);
            if (count > 0) {
                c.due(0, x, "clashes", count - 1);
            }
            if (count < 63) {
                c.due(0, x, "clashes", count + 1);
            }
            // Where one alone takes the place of the other one, it is none.
            x.move(1, count, -2, 0);
            c.due(0, x, "clashes", count);
            x.move(1, count, -1, -1);
            c.due(0, x, "clashes", count);
            x.move(1, count, -2, -1);
            x.move(0, count, 2, 0);
            c.due(0, x, "clashes", count);
            x.move(0, count, 1, 1);
            c.due(0, x, "clashes", count);
            x.move(0, count, 2, 1);
            c.due(1, x, "clashes", count);
            // One count later it is no change, though each is where the other one's first place is.
            if (count < 63) {
                x.move(1, count, 0, 1);
                x.move(1, count + 1, -2, -2);
                c.due(0, x, "clashes", count + 1);
            }
        }
        Stepscript x = Houses.at(3, 3, 4, 3);
        x.move(0, 9, 1, 1);
        x.move(1, 9, -1, 1);
        c.due(0, x, "clashes", 9);
    }

    /** "at the count 0: whose first places these were". */
    private static void clashesAheadOfCount0() {
        Stepscript x = Houses.at(0, 0, 2, 2, 7, 0);
        x.move(0, 0, 2, 2);
        x.move(1, 0, 0, -2);
        c.due(0, x, "clashes", 0);
        x.move(1, 0, -2, -2);
        c.due(1, x, "clashes", 0);
        x.move(2, 0, 1, 0);
        c.due(2, x, "clashes", 0);
        c.due(1, x, "clashes", 1);
        x.move(1, 0, -2, -1);
        c.due(1, x, "clashes", 0);
        // Two who change places off the stage: each is off, and the two are one more.
        Stepscript y = Houses.at(0, 0, 0, 1);
        y.move(0, 0, -1, 0);
        y.move(1, 0, -1, 0);
        y.move(0, 1, 0, 1);
        y.move(1, 1, 0, -1);
        c.due(2, y, "clashes", 0);
        c.due(3, y, "clashes", 1);
        c.due(2, y, "clashes", 2);
    }

    /** "dancers who are off the stage, and each two ..; each two once": with 8 dancers, the most. */
    private static void allAtOnePlace() {
        Stepscript x = Houses.at(0, 0, 1, 0, 2, 0, 0, 1, 2, 1, 0, 2, 1, 2, 2, 2);
        for (int dancer = 0; dancer < 8; dancer++) {
            x.move(dancer, 10, 1 - x.place(dancer, 0, false), 1 - x.place(dancer, 0, true));
            x.move(dancer, 20, -2, 0);
        }
        c.due(0, x, "clashes", 9);
        c.due(28, x, "clashes", 10);
        c.due(28, x, "clashes", 11);
        c.due(36, x, "clashes", 20);
        c.due(36, x, "clashes", 63);
        x.move(7, 63, 2, 0);
        c.due(28, x, "clashes", 63);
        c.due(10, x, "firstClash");
    }

    /** "All this counts as well for those who are written out." */
    private static void clashesOfWrittenOut() {
        Stepscript x = Houses.at(0, 0, 1, 0, 6, 6, 7, 7, 0, 7);
        x.move(0, 3, -1, 0);
        x.move(0, 4, 1, 0);
        x.move(1, 5, -1, 0);
        x.move(2, 7, 1, 1);
        x.move(3, 7, -1, -1);
        c.due(0, x, "hurt", 0);
        c.due(0, x, "hurt", 2);
        c.due(1, x, "clashes", 3);
        c.due(0, x, "clashes", 4);
        c.due(1, x, "clashes", 5);
        c.due(2, x, "clashes", 7);
        c.due(0, x, "hurt", 1);
        c.due(0, x, "hurt", 3);
        c.due(1, x, "clashes", 3);
        c.due(1, x, "clashes", 5);
        c.due(2, x, "clashes", 7);
        c.due(3, x, "firstClash");
    }

    /** "the first count with a clash", "NONE without". */
    private static void firstAndLastClash() {
        Stepscript x = Houses.at(7, 7, 0, 0);
        c.due(-1, x, "firstClash");
        for (int count = 63; count >= 0; count--) {
            x.move(0, count, 0, count % 2 == 0 ? 1 : 2);
            c.due(count, x, "firstClash");
        }
        for (int count = 0; count < 64; count++) {
            c.due(count, x, "firstClash");
            x.move(0, count, 0, 0);
        }
        c.due(-1, x, "firstClash");
        // A change alone, and two at one place alone, are clashes too.
        Stepscript y = Houses.at(3, 3, 4, 3);
        y.move(0, 63, 1, 0);
        c.due(63, y, "firstClash");
        y.move(1, 63, -1, 0);
        c.due(63, y, "firstClash");
        y.move(1, 63, 1, 0);
        c.due(-1, y, "firstClash");
    }

    /** "An object is used for at most 512 calls after it has been made". */
    private static void lastCall() {
        Stepscript x = new Stepscript();
        for (int call = 1; call <= 512; call++) {
            c.due(call, x, "sleep");
        }
        Stepscript y = new Stepscript();
        for (int dancer = 0; dancer < 8; dancer++) {
            c.due(dancer, y, "dancer", dancer, dancer);
        }
        for (int call = 9; call <= 511; call++) {
            c.refused(y, "dancer", 0, 7);
        }
        c.due(-1, y, "firstClash");
        Stepscript z = new Stepscript();
        c.due(0, z, "dancer", 0, 0);
        for (int call = 2; call <= 511; call++) {
            c.due(1, z, "move", 0, 63, 1, call % 3);
        }
        c.due(511 % 3, z, "placeAnew", 0, 63, 1);
    }
}
