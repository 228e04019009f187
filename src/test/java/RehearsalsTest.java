/** Promises 12, 13, 14 and 16: rehearse, rehearsal, knees, sleep. */
public final class RehearsalsTest {
    private static final Checks c = new Checks("RehearsalsTest");

    public static void main(String[] args) {
        throwing();
        whoTakesPart();
        whatItCosts();
        roomsAndHours();
        kneesBear();
        asPlanned();
        writtenOutPayNothing();
        goneLifts();
        sleeping();
        c.close();
    }

    private static void throwing() {
        Stepscript x = Houses.at(0, 0);
        x.rehearse(0, 8, 0, 0);
        c.noPlace("room 3", () -> x.rehearse(3, 8, 0, 0));
        c.noPlace("room -1", () -> x.rehearse(-1, 8, 0, 0));
        c.noPlace("hour 7", () -> x.rehearse(0, 7, 0, 0));
        c.noPlace("hour 21", () -> x.rehearse(0, 21, 0, 0));
        c.noPlace("from -1", () -> x.rehearse(0, 9, -1, 0));
        c.noPlace("from 64", () -> x.rehearse(0, 9, 64, 63));
        c.noPlace("to 64", () -> x.rehearse(0, 9, 0, 64));
        c.noPlace("to -1", () -> x.rehearse(0, 9, 0, -1));
        c.badArgument("to ahead of from", () -> x.rehearse(0, 9, 5, 4));
        c.badArgument("to ahead of from, room taken", () -> x.rehearse(0, 8, 5, 4));
        c.refused("room taken", () -> x.rehearse(0, 8, 4, 4));
        c.noPlace("rehearsal, room 3", () -> x.rehearsal(3, 8));
        c.noPlace("rehearsal, room -1", () -> x.rehearsal(-1, 8));
        c.noPlace("rehearsal, hour 7", () -> x.rehearsal(0, 7));
        c.noPlace("rehearsal, hour 21", () -> x.rehearsal(0, 21));
        c.noPlace("rehearsal, hour least", () -> x.rehearsal(0, Integer.MIN_VALUE));
        c.noPlace("knees, dancer 1", () -> x.knees(1));
        c.noPlace("knees, dancer -1", () -> x.knees(-1));
        c.due(-1, "nothing was planned", () -> x.rehearsal(0, 9));
    }

    private static void whoTakesPart() {
        Stepscript x = Houses.at(0, 0, 1, 0, 2, 0, 3, 0, 4, 0, 5, 0, 6, 0, 7, 0);
        x.move(1, 10, 0, 1);
        x.move(7, 20, -1, 0);
        x.move(2, 10, 1, 0);
        x.move(2, 10, 0, 0);
        x.lift(15, 3, 4, 5);
        c.due(0, "nobody", () -> x.rehearse(0, 8, 0, 9));
        c.due(2, "from, itself included", () -> x.rehearse(0, 9, 10, 11));
        c.due(56, "in a lift that does not stand", () -> x.rehearse(0, 10, 11, 19));
        c.due(128, "to, itself included", () -> x.rehearse(0, 11, 16, 20));
        c.due(186, "all of them", () -> x.rehearse(0, 20, 0, 63));
        x.hurt(7);
        c.due(0, "written out", () -> x.rehearse(0, 12, 20, 20));
        c.due(186, "told again", () -> x.rehearsal(0, 20));
        c.due(0, "told, nobody", () -> x.rehearsal(0, 8));
    }

    private static void whatItCosts() {
        Stepscript x = Houses.at(0, 0, 1, 0, 2, 0, 3, 0);
        x.move(0, 1, 2, -2);
        x.move(0, 2, -1, 0);
        x.move(0, 3, 1, 1);
        x.lift(2, 0, 1, 2);
        x.lift(2, 3, 1, 2);
        x.lift(3, 3, 1, 2);
        c.due(15, "counts 2 alone", () -> x.rehearse(0, 8, 2, 2));
        c.due(6, "a move and a lift", () -> x.knees(0));
        c.due(10, "two lifts", () -> x.knees(1));
        c.due(10, "two lifts", () -> x.knees(2));
        c.due(5, "lifted", () -> x.knees(3));
        c.due(15, "counts 1 to 3", () -> x.rehearse(0, 9, 1, 3));
        c.due(6 + 12, "without signs", () -> x.knees(0));
        c.due(10 + 15, "three lifts", () -> x.knees(1));
        c.due(5 + 10, "lifted twice", () -> x.knees(3));
    }

    private static void roomsAndHours() {
        Stepscript x = Houses.at(0, 0, 1, 0, 7, 7);
        x.move(0, 1, 1, 1);
        x.move(1, 1, 1, 1);
        x.move(1, 2, 1, 1);
        x.move(2, 3, -1, 0);
        c.due(3, "first", () -> x.rehearse(1, 8, 1, 1));
        c.refused("1 is in room 1", () -> x.rehearse(0, 8, 2, 2));
        c.refused("1 is in room 1", () -> x.rehearse(2, 8, 2, 3));
        c.due(-1, "still free", () -> x.rehearsal(2, 8));
        c.due(2, "no knees paid", () -> x.knees(1));
        c.due(0, "no knees paid", () -> x.knees(2));
        c.due(4, "another one in that hour", () -> x.rehearse(2, 8, 3, 3));
        c.due(2, "in the next hour", () -> x.rehearse(0, 9, 2, 2));
        c.due(0, "nobody, in that hour", () -> x.rehearse(0, 8, 10, 10));
        c.refused("a room of nobody is taken", () -> x.rehearse(0, 8, 10, 10));
    }

    private static void kneesBear() {
        Stepscript x = Houses.at(0, 0, 7, 7);
        for (int count = 0; count < 20; count++) {
            x.move(0, count, 2, -2);
        }
        x.move(1, 19, -1, 0);
        x.move(0, 30, 0, 1);
        c.due(1, "60 points", () -> x.rehearse(0, 8, 0, 14));
        c.due(60, "knees", () -> x.knees(0));
        c.refused("61 points", () -> x.rehearse(0, 9, 30, 30));
        c.refused("for another one too", () -> x.rehearse(0, 9, 19, 30));
        c.due(0, "nothing paid", () -> x.knees(1));
        c.due(-1, "nothing planned", () -> x.rehearsal(0, 9));
        c.due(0, "nobody pays", () -> x.rehearse(0, 9, 40, 63));
        c.due(1, "sleep", x::sleep);
        c.due(35, "25 less", () -> x.knees(0));
        c.refused("too many at once", () -> x.rehearse(0, 8, 0, 6));
        c.due(1, "59", () -> x.rehearse(0, 8, 0, 5));
        c.due(1, "60 again", () -> x.rehearse(0, 9, 30, 30));
        c.refused("61", () -> x.rehearse(0, 10, 30, 30));
    }

    private static void asPlanned() {
        Stepscript x = Houses.at(0, 0, 1, 0, 2, 0);
        x.move(0, 1, 1, 0);
        x.move(1, 1, 1, 0);
        c.due(3, "planned", () -> x.rehearse(0, 8, 1, 1));
        x.move(0, 1, 0, 0);
        x.move(2, 1, 1, 0);
        x.hurt(1);
        c.due(3, "stays as planned", () -> x.rehearsal(0, 8));
        c.due(1, "knees of one written out", () -> x.knees(1));
        x.move(0, 2, 1, 0);
        c.refused("0 still takes part", () -> x.rehearse(1, 8, 2, 2));
        c.due(4, "2 does not", () -> x.rehearse(1, 8, 1, 1));
        c.due(1, "sleep", x::sleep);
        c.due(0, "knees of one written out go down", () -> x.knees(1));
    }

    private static void writtenOutPayNothing() {
        Stepscript x = Houses.at(0, 0, 7, 7);
        for (int count = 0; count < 20; count++) {
            x.move(0, count, 2, 2);
        }
        x.move(1, 0, -1, 0);
        x.hurt(0);
        c.due(2, "80 points of one written out do not refuse it", () -> x.rehearse(0, 8, 0, 19));
        c.due(0, "nor are they paid", () -> x.knees(0));
        c.due(1, "the other one pays", () -> x.knees(1));
        x.dancer(4, 4);
        c.refused("1 is in room 0", () -> x.rehearse(1, 8, 0, 0));
        c.due(2, "one with no move does not take part", () -> x.rehearse(1, 9, 0, 0));
        c.due(0, "nor pay", () -> x.knees(2));
    }

    private static void goneLifts() {
        Stepscript x = Houses.at(0, 0, 1, 0, 0, 1, 7, 7);
        x.lift(5, 0, 1, 2);
        x.hurt(0);
        c.due(0, "a gone lift", () -> x.rehearse(0, 8, 5, 5));
        c.due(0, "costs nothing", () -> x.knees(1));
    }

    private static void sleeping() {
        Stepscript x = Houses.at(0, 0);
        x.move(0, 0, 2, 2);
        for (int i = 0; i < 8; i++) {
            x.rehearse(2, 13 + i, 0, 0);
        }
        c.due(32, "knees", () -> x.knees(0));
        c.due(1, "day 1", x::sleep);
        c.due(7, "25 less", () -> x.knees(0));
        c.due(-1, "free", () -> x.rehearsal(2, 13));
        c.due(-1, "free", () -> x.rehearsal(2, 20));
        c.due(1, "planned today", () -> x.rehearse(2, 20, 0, 0));
        c.due(11, "knees", () -> x.knees(0));
        c.due(2, "day 2", x::sleep);
        c.due(0, "at least 0", () -> x.knees(0));
        c.due(3, "day 3", x::sleep);
        c.due(0, "at least 0", () -> x.knees(0));
    }
}
