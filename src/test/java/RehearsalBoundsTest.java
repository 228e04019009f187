/** What the document says of rehearsals, promises 12 to 14 and 16, at its bounds: a test for each sentence. */
public final class RehearsalBoundsTest {
    private static final int LEAST = Integer.MIN_VALUE;
    private static final int MOST = Integer.MAX_VALUE;
    private static final Checks c = new Checks("RehearsalBoundsTest");

    public static void main(String[] args) {
        roomsAndHours();
        counts();
        toAheadOfFrom();
        nobodyThereYet();
        movesOnTheFirstAndTheLastCount();
        liftsOnTheFirstAndTheLastCount();
        whoTakesPart();
        noMove();
        notWrittenOut();
        staysAsPlanned();
        pointsOfMoves();
        pointsOfLifts();
        liftsThatAreGone();
        movesOfAVisit();
        roomIsTaken();
        takesPartInAnotherOne();
        sixtyPoints();
        kneesOfOneAmongAll();
        kneesOfOthers();
        twelveLiftsAreSixty();
        fewerPointsBehindADay();
        dayEnds();
        c.close();
    }

    /** "There are the rooms 0 to 2, and the hours 8 to 20 of a day." */
    private static void roomsAndHours() {
        Stepscript x = Houses.at(0, 0);
        for (int none : new int[] {LEAST, -1, 3, 4, MOST}) {
            c.noPlace(x, "rehearse", none, 8, 0, 0);
            c.noPlace(x, "rehearse", none, 20, 63, 63);
            c.noPlace(x, "rehearsal", none, 8);
            c.noPlace(x, "rehearsal", none, 20);
        }
        for (int none : new int[] {LEAST, -1, 0, 7, 21, 24, MOST}) {
            c.noPlace(x, "rehearse", 0, none, 0, 0);
            c.noPlace(x, "rehearse", 2, none, 63, 63);
            c.noPlace(x, "rehearsal", 0, none);
            c.noPlace(x, "rehearsal", 2, none);
        }
        x.move(0, 0, 1, 0);
        for (int hour = 8; hour <= 20; hour++) {
            for (int room = 0; room < 3; room++) {
                boolean moving = hour % 3 == room;
                c.due(-1, x, "rehearsal", room, hour);
                c.due(moving ? 1 : 0, x, "rehearse", room, hour, moving ? 0 : 1, 1);
                c.due(moving ? 1 : 0, x, "rehearsal", room, hour);
            }
        }
        c.due(13, x, "knees", 0);
    }

    /** "if there is no such .. count, of either". */
    private static void counts() {
        Stepscript x = Houses.at(0, 0);
        for (int none : new int[] {LEAST, -64, -1, 64, 65, MOST}) {
            c.noPlace(x, "rehearse", 0, 8, none, 63);
            c.noPlace(x, "rehearse", 0, 8, none, 0);
            c.noPlace(x, "rehearse", 0, 8, 0, none);
            c.noPlace(x, "rehearse", 0, 8, 63, none);
            c.noPlace(x, "rehearse", 0, 8, none, none);
        }
        c.due(-1, x, "rehearsal", 0, 8);
        c.due(0, x, "rehearse", 0, 8, 0, 63);
    }

    /** "from to 63", "if to is ahead of from". */
    private static void toAheadOfFrom() {
        Stepscript x = Houses.at(0, 0);
        for (int from = 1; from < 64; from++) {
            c.badArgument(x, "rehearse", 0, 8, from, from - 1);
            c.badArgument(x, "rehearse", 0, 8, from, 0);
        }
        c.badArgument(x, "rehearse", 0, 8, 63, 62);
        c.due(-1, x, "rehearsal", 0, 8);
        for (int count = 0; count < 64; count++) {
            c.due(0, x, "rehearse", count % 3, 8 + count % 13, count, count);
            if (count % 13 == 12) {
                x.sleep();
            }
        }
        c.due(0, x, "rehearse", 0, 20, 62, 63);
        c.due(0, x, "rehearse", 1, 20, 0, 63);
    }

    private static void nobodyThereYet() {
        Stepscript x = new Stepscript();
        c.due(0, x, "rehearse", 0, 8, 0, 63);
        c.due(0, x, "rehearsal", 0, 8);
        c.refused(x, "rehearse", 0, 8, 0, 63);
        c.noPlace(x, "knees", 0);
        c.noPlace(x, "knees", -1);
        c.due(0, x, "dancer", 3, 3);
        c.due(0, x, "knees", 0);
        c.noPlace(x, "knees", 1);
        c.noPlace(x, "knees", LEAST);
        c.noPlace(x, "knees", MOST);
    }

    /** "of counts from one to a last one: all dancers who move there": both are in it. */
    private static void movesOnTheFirstAndTheLastCount() {
        for (int count = 0; count < 64; count++) {
            Stepscript x = Houses.at(0, 0);
            x.move(0, count, 0, -1);
            if (count > 0) {
                c.due(0, x, "rehearse", 0, 8, 0, count - 1);
            }
            if (count < 63) {
                c.due(0, x, "rehearse", 1, 8, count + 1, 63);
            }
            c.due(0, x, "knees", 0);
            c.due(1, x, "rehearse", 0, 9, 0, count);
            c.due(1, x, "rehearse", 1, 10, count, 63);
            c.due(1, x, "rehearse", 2, 11, count, count);
            c.due(3, x, "knees", 0);
        }
    }

    /** "or are in a lift there". */
    private static void liftsOnTheFirstAndTheLastCount() {
        for (int count = 0; count < 64; count++) {
            Stepscript x = Houses.at(0, 0, 4, 4, 7, 7, 2, 2);
            x.lift(count, 3, 0, 1);
            if (count > 0) {
                c.due(0, x, "rehearse", 0, 8, 0, count - 1);
            }
            if (count < 63) {
                c.due(0, x, "rehearse", 1, 8, count + 1, 63);
            }
            c.due(11, x, "rehearse", 0, 9, 0, count);
            c.due(11, x, "rehearse", 1, 10, count, 63);
            c.due(11, x, "rehearse", 2, 11, count, count);
            c.due(15, x, "knees", 0);
            c.due(15, x, "knees", 1);
            c.due(0, x, "knees", 2);
            c.due(15, x, "knees", 3);
        }
    }

    /** "the sum of 2 to the power of each": nobody, each one alone, all 8. */
    private static void whoTakesPart() {
        Stepscript x = Houses.at(0, 0, 1, 0, 2, 0, 3, 0, 4, 0, 5, 0, 6, 0, 7, 0);
        for (int dancer = 0; dancer < 8; dancer++) {
            x.move(dancer, 10 + dancer, 0, 1);
        }
        c.due(0, x, "rehearse", 0, 8, 0, 9);
        for (int dancer = 0; dancer < 8; dancer++) {
            c.due(1 << dancer, x, "rehearse", 0, 9 + dancer, 10 + dancer, 10 + dancer);
            c.due(1 << dancer, x, "rehearsal", 0, 9 + dancer);
        }
        c.due(255, x, "rehearse", 0, 20, 0, 63);
        c.due(255, x, "rehearsal", 0, 20);
        c.due(127, x, "rehearse", 1, 19, 10, 16);
        c.due(254, x, "rehearse", 2, 18, 11, 17);
        c.due(0, x, "rehearsal", 0, 8);
    }

    /** "(0, 0) without": whoever has it does not move there. */
    private static void noMove() {
        Stepscript x = Houses.at(0, 0, 1, 0, 2, 0, 3, 0);
        x.move(0, 5, 0, 0);
        x.move(1, 5, 1, 0);
        x.move(1, 5, 0, 0);
        x.move(2, 5, -1, 0);
        x.move(3, 5, 0, -1);
        c.due(12, x, "rehearse", 0, 8, 5, 5);
        // Ways that are none together are moves each.
        x.move(0, 6, 1, 0);
        x.move(0, 7, -1, 0);
        c.due(1, x, "rehearse", 1, 8, 6, 7);
        c.due(2, x, "knees", 0);
    }

    /** "if they are not written out". */
    private static void notWrittenOut() {
        Stepscript x = Houses.at(0, 0, 1, 0, 2, 0);
        x.move(0, 5, 1, 0);
        x.move(1, 5, 1, 0);
        c.due(0, x, "hurt", 0);
        c.due(2, x, "rehearse", 0, 8, 5, 5);
        c.due(0, x, "knees", 0);
        c.due(0, x, "hurt", 1);
        c.due(0, x, "rehearse", 1, 8, 5, 5);
        c.due(1, x, "knees", 1);
        c.due(1, x, "sleep");
        c.due(0, x, "rehearse", 0, 8, 0, 63);
        // Nor do their knees refuse it, though it would be 64 points.
        Stepscript y = Houses.at(0, 0, 7, 7);
        for (int count = 0; count < 16; count++) {
            y.move(0, count, 2, 2);
        }
        y.move(1, 0, -1, 0);
        c.due(0, y, "hurt", 0);
        c.due(2, y, "rehearse", 0, 8, 0, 15);
        c.due(0, y, "knees", 0);
    }

    /** "it stays as planned", whatever is written behind it. */
    private static void staysAsPlanned() {
        Stepscript x = Houses.at(0, 0, 1, 0, 2, 0, 3, 0);
        x.move(0, 5, 2, 2);
        x.move(1, 5, 1, 0);
        x.lift(5, 2, 0, 1);
        c.due(7, x, "rehearse", 0, 8, 5, 5);
        x.move(0, 5, 0, 0);
        x.move(3, 5, 0, 1);
        c.due(0, x, "hurt", 1);
        c.due(0, x, "hurt", 2);
        c.due(7, x, "rehearsal", 0, 8);
        c.due(9, x, "knees", 0);
        c.due(6, x, "knees", 1);
        c.due(5, x, "knees", 2);
        c.due(0, x, "knees", 3);
        // 0 still takes part at 8, and 3 does not.
        x.move(0, 9, 1, 0);
        c.refused(x, "rehearse", 1, 8, 9, 9);
        x.move(0, 9, 0, 0);
        x.move(3, 9, 1, 0);
        c.due(8, x, "rehearse", 1, 8, 9, 9);
    }

    /** "as many points as the columns and rows of their moves there without signs, together". */
    private static void pointsOfMoves() {
        for (int columns = -2; columns <= 2; columns++) {
            for (int rows = -2; rows <= 2; rows++) {
                Stepscript x = Houses.at(3, 3);
                x.move(0, 7, columns, rows);
                x.move(0, 9, rows, columns);
                x.move(0, 10, 2, 2);
                int one = Math.abs(columns) + Math.abs(rows);
                c.due(one > 0 ? 1 : 0, x, "rehearse", 0, 8, 7, 7);
                c.due(one, x, "knees", 0);
                c.due(one > 0 ? 1 : 0, x, "rehearse", 0, 9, 0, 9);
                c.due(3 * one, x, "knees", 0);
            }
        }
    }

    /** "and 5 for each lift there in which they are", lifted or lifting, also where it does not stand. */
    private static void pointsOfLifts() {
        Stepscript x = Houses.at(0, 0, 1, 0, 4, 4, 7, 7, 0, 1, 1, 1);
        x.lift(5, 0, 1, 2);
        x.lift(6, 0, 1, 3);
        x.lift(7, 1, 2, 0);
        x.lift(8, 0, 4, 5);
        x.move(0, 6, 1, 1);
        c.due(15, x, "rehearse", 0, 8, 5, 7);
        int[] due = {17, 15, 10, 5, 0, 0};
        for (int dancer = 0; dancer < due.length; dancer++) {
            c.due(due[dancer], x, "knees", dancer);
        }
        c.due(0, x, "hurt", 1);
        // The lift 2 was of 1, and is gone; 4 lifts for 1 in the lifts 0 and 1.
        c.due(2, x, "ofLift", 2, 4);
        c.due(4, x, "ofLift", 0, 2);
        c.due(4, x, "ofLift", 1, 2);
        c.due(0, x, "rehearse", 0, 9, 7, 7);
        c.due(1 + 4 + 16, x, "rehearse", 0, 10, 5, 5);
        c.due(22, x, "knees", 0);
        c.due(15, x, "knees", 1);
        c.due(15, x, "knees", 2);
        c.due(5, x, "knees", 4);
    }

    /** "a lift there that is not gone": one that is gone brings nobody, and costs nobody who moves there. */
    private static void liftsThatAreGone() {
        for (int from = 4; from <= 5; from++) {
            for (int to = 5; to <= 6; to++) {
                Stepscript x = Houses.at(0, 0, 1, 0, 0, 1, 7, 7);
                x.lift(5, 0, 1, 2);
                x.move(1, 5, 0, 2);
                c.due(7, x, "rehearse", 0, 8, from, to);
                c.due(0, x, "hurt", 0);
                c.due(2, x, "rehearse", 0, 9, from, to);
                c.due(5, x, "knees", 0);
                c.due(7 + 2, x, "knees", 1);
                c.due(5, x, "knees", 2);
            }
        }
        // With 12 of them, knees of 58 points bear the move.
        Stepscript x = Houses.at(0, 0, 7, 0, 0, 7);
        for (int lift = 0; lift < 12; lift++) {
            x.lift(5, 0, 1, 2);
        }
        for (int count = 10; count < 25; count++) {
            x.move(1, count, count == 10 ? 0 : 2, 2);
        }
        x.move(1, 5, 1, 1);
        c.due(2, x, "rehearse", 0, 8, 10, 24);
        c.refused(x, "rehearse", 0, 9, 5, 5);
        c.due(0, x, "hurt", 0);
        c.due(2, x, "rehearse", 0, 9, 5, 5);
        c.due(60, x, "knees", 1);
    }

    /** Moves that were written for one who was hurt are "their moves there" too: the way, and the way back. */
    private static void movesOfAVisit() {
        Stepscript x = Houses.at(3, 3, 4, 3, 3, 4, 5, 1);
        x.lift(20, 0, 1, 2);
        c.due(1 + 2 + 4, x, "rehearse", 0, 8, 20, 21);
        c.due(2, x, "hurt", 1);
        c.due(8, x, "rehearse", 0, 9, 21, 63);
        c.due(3, x, "knees", 3);
        c.due(1 + 4 + 8, x, "rehearse", 0, 10, 0, 20);
        c.due(3 + 3 + 5, x, "knees", 3);
        c.due(5 + 5, x, "knees", 0);
        c.due(5, x, "knees", 1);
    }

    /** "It is refused, if the room is taken in that hour". */
    private static void roomIsTaken() {
        Stepscript x = Houses.at(0, 0, 1, 0);
        x.move(0, 5, 1, 0);
        x.move(1, 6, 1, 0);
        c.due(1, x, "rehearse", 1, 14, 5, 5);
        c.refused(x, "rehearse", 1, 14, 5, 5);
        c.refused(x, "rehearse", 1, 14, 6, 6);
        c.refused(x, "rehearse", 1, 14, 0, 0);
        c.due(0, x, "knees", 1);
        c.due(1, x, "rehearsal", 1, 14);
        c.due(1, x, "rehearse", 1, 13, 5, 5);
        c.due(1, x, "rehearse", 1, 15, 5, 5);
        c.due(2, x, "rehearse", 0, 14, 6, 6);
        c.due(0, x, "rehearse", 2, 14, 7, 7);
        // Also where nobody takes part.
        c.refused(x, "rehearse", 2, 14, 7, 7);
        c.due(0, x, "rehearsal", 2, 14);
    }

    /** "one of them takes part in another one in that hour". */
    private static void takesPartInAnotherOne() {
        for (int dancer = 0; dancer < 8; dancer++) {
            Stepscript x = Houses.at(0, 0, 1, 0, 2, 0, 3, 0, 4, 0, 5, 0, 6, 0, 7, 0);
            for (int each = 0; each < 8; each++) {
                x.move(each, 5, 0, 1);
            }
            x.move(dancer, 6, 0, 1);
            c.due(1 << dancer, x, "rehearse", 2, 20, 6, 6);
            c.refused(x, "rehearse", 0, 20, 5, 5);
            c.refused(x, "rehearse", 1, 20, 6, 6);
            c.due(-1, x, "rehearsal", 0, 20);
            c.due(-1, x, "rehearsal", 1, 20);
            for (int each = 0; each < 8; each++) {
                c.due(each == dancer ? 1 : 0, x, "knees", each);
            }
            c.due(255, x, "rehearse", 0, 19, 5, 5);
            x.move(dancer, 5, 0, 0);
            c.due(255 - (1 << dancer), x, "rehearse", 1, 20, 5, 5);
            c.due(0, x, "rehearse", 0, 20, 7, 7);
        }
    }

    /** "or the knees of one would have more than 60 points": 59 and 60 are borne, 61 are not. */
    private static void sixtyPoints() {
        for (int points = 57; points <= 63; points++) {
            Stepscript x = Houses.at(3, 3);
            for (int count = 0; count < 14; count++) {
                x.move(0, count, 2, -2);
            }
            x.move(0, 14, Math.min(2, points - 56), Math.min(2, points - 58 > 0 ? points - 58 : 0));
            x.move(0, 15, points > 60 ? 1 : 0, points > 61 ? points - 61 : 0);
            if (points <= 60) {
                c.due(1, x, "rehearse", 0, 8, 0, 15);
                c.due(points, x, "knees", 0);
            } else {
                c.refused(x, "rehearse", 0, 8, 0, 15);
                c.due(0, x, "knees", 0);
                c.due(-1, x, "rehearsal", 0, 8);
                // The points that were there already count too.
                c.due(1, x, "rehearse", 0, 8, 0, 14);
                c.due(60, x, "knees", 0);
                c.refused(x, "rehearse", 0, 9, 15, 15);
            }
        }
    }

    /** One of 8 whose knees would have too many is enough, and then nobody pays. */
    private static void kneesOfOneAmongAll() {
        for (int weary = 0; weary < 8; weary++) {
            Stepscript x = Houses.at(0, 0, 1, 0, 2, 0, 3, 0, 4, 0, 5, 0, 6, 0, 7, 0);
            for (int count = 0; count < 15; count++) {
                x.move(weary, count, 2, 2);
            }
            for (int dancer = 0; dancer < 8; dancer++) {
                x.move(dancer, 20, 0, 1);
            }
            c.due(1 << weary, x, "rehearse", 0, 8, 0, 14);
            c.refused(x, "rehearse", 0, 9, 20, 20);
            for (int dancer = 0; dancer < 8; dancer++) {
                c.due(dancer == weary ? 60 : 0, x, "knees", dancer);
            }
            x.move(weary, 20, 0, 0);
            c.due(255 - (1 << weary), x, "rehearse", 0, 9, 20, 20);
            c.due(60, x, "knees", weary);
        }
    }

    /** Whoever takes no part hinders nobody, with 60 points or in another room. */
    private static void kneesOfOthers() {
        Stepscript x = Houses.at(0, 0, 7, 7);
        for (int count = 0; count < 15; count++) {
            x.move(0, count, 2, 2);
        }
        x.move(1, 15, 1, 0);
        c.due(1, x, "rehearse", 0, 8, 0, 14);
        c.due(2, x, "rehearse", 1, 8, 15, 15);
        c.due(0, x, "rehearse", 2, 8, 16, 63);
        c.due(60, x, "knees", 0);
        c.due(1, x, "knees", 1);
    }

    /** "5 for each lift there": with all 12 of them, 60 points, and with a move more it is refused. */
    private static void twelveLiftsAreSixty() {
        Stepscript x = Houses.at(0, 0, 1, 0, 0, 1);
        for (int lift = 0; lift < 12; lift++) {
            x.lift(30, 0, 1, 2);
        }
        x.move(2, 31, 0, 1);
        c.refused(x, "rehearse", 0, 8, 30, 31);
        c.due(0, x, "knees", 0);
        c.due(7, x, "rehearse", 0, 8, 30, 30);
        c.due(60, x, "knees", 0);
        c.due(60, x, "knees", 1);
        c.due(60, x, "knees", 2);
        c.refused(x, "rehearse", 0, 9, 31, 31);
        c.refused(x, "rehearse", 0, 9, 30, 30);
        c.due(0, x, "rehearse", 0, 9, 29, 29);
    }

    /** "Behind each day knees have 25 points less, at least 0." */
    private static void fewerPointsBehindADay() {
        for (int points = 0; points <= 60; points++) {
            Stepscript x = Houses.at(3, 3, 7, 7);
            for (int count = 0; count < 15; count++) {
                int columns = Math.max(0, Math.min(2, points - 4 * count));
                x.move(0, count, columns, -Math.max(0, Math.min(2, points - 4 * count - 2)));
            }
            c.due(points > 0 ? 1 : 0, x, "rehearse", 0, 8, 0, 14);
            int left = points;
            for (int day = 1; day <= 4; day++) {
                c.due(left, x, "knees", 0);
                c.due(0, x, "knees", 1);
                c.due(day, x, "sleep");
                left = left > 25 ? left - 25 : 0;
            }
            c.due(0, x, "knees", 0);
        }
        Stepscript x = Houses.at(3, 3);
        x.move(0, 0, 2, 1);
        c.due(1, x, "rehearse", 0, 8, 0, 0);
        c.due(0, x, "hurt", 0);
        c.due(3, x, "knees", 0);
        c.due(1, x, "sleep");
        c.due(0, x, "knees", 0);
    }

    /** "Lets the day end; rehearsals of the day are over, and rooms free." "Returns the day." */
    private static void dayEnds() {
        Stepscript x = Houses.at(0, 0);
        for (int day = 1; day <= 3; day++) {
            for (int hour = 8; hour <= 20; hour++) {
                for (int room = 0; room < 3; room++) {
                    c.due(0, x, "rehearse", room, hour, 5, 5);
                }
            }
            c.due(day, x, "sleep");
            for (int hour = 8; hour <= 20; hour++) {
                for (int room = 0; room < 3; room++) {
                    c.due(-1, x, "rehearsal", room, hour);
                }
            }
        }
        // Whoever took part yesterday is free today, at that hour and in that room.
        x.move(0, 5, 1, 0);
        c.due(1, x, "rehearse", 0, 8, 5, 5);
        c.due(4, x, "sleep");
        c.due(1, x, "rehearse", 1, 8, 5, 5);
        c.due(5, x, "sleep");
        c.due(1, x, "rehearse", 1, 8, 5, 5);
        // A day changes nothing else.
        c.due(1, x, "place", 0, 63, 0);
        c.due(31500, x, "begins", 63);
    }
}
