/** Promises 1 to 7: a new object, dancer, move, place, placeAnew, clashes, firstClash. */
public final class PlacesTest {
    private static final Checks c = new Checks("PlacesTest");

    public static void main(String[] args) {
        newObject();
        dancer();
        moveAnswers();
        moveThrows();
        places();
        clashesOffStage();
        clashesAtOnePlace();
        clashesByChange();
        clashesOfWrittenOut();
        firstClash();
        c.close();
    }

    private static void newObject() {
        Stepscript x = new Stepscript();
        c.due(-1, "NONE", () -> Stepscript.NONE);
        c.noPlace("place of no dancer", () -> x.place(0, 0, false));
        c.noPlace("knees of no dancer", () -> x.knees(0));
        c.noPlace("ofLift of no lift", () -> x.ofLift(0, 0));
        c.due(-1, "firstClash of none", x::firstClash);
        c.due(0, "clashes of none", () -> x.clashes(0));
        c.due(0, "begins(0)", () -> x.begins(0));
        c.due(-1, "rehearsal(0, 8)", () -> x.rehearsal(0, 8));
        c.due(-1, "rehearsal(2, 20)", () -> x.rehearsal(2, 20));
        c.due(1, "sleep: the day was 0", x::sleep);
    }

    private static void dancer() {
        Stepscript x = new Stepscript();
        int[][] off = {{-1, 0}, {0, -1}, {8, 0}, {0, 8}, {Integer.MIN_VALUE, 3}, {3, Integer.MAX_VALUE}};
        for (int[] at : off) {
            c.noPlace("dancer off " + at[0] + " " + at[1], () -> x.dancer(at[0], at[1]));
        }
        c.due(0, "dancer(0, 0)", () -> x.dancer(0, 0));
        c.due(1, "dancer(7, 7)", () -> x.dancer(7, 7));
        c.refused("first place of another", () -> x.dancer(0, 0));
        c.due(2, "same column", () -> x.dancer(0, 7));
        c.due(3, "same row", () -> x.dancer(7, 0));
        c.due(1, "away from the first place", () -> x.move(0, 0, 1, 0));
        c.refused("the first place stays taken", () -> x.dancer(0, 0));
        c.due(4, "where another one only moves to", () -> x.dancer(1, 0));
        c.due(0, "hurt", () -> x.hurt(1));
        c.refused("the first place of one written out", () -> x.dancer(7, 7));
        for (int i = 5; i < 8; i++) {
            int column = i;
            c.due(i, "dancer " + i, () -> x.dancer(column, 4));
        }
        c.refused("a ninth", () -> x.dancer(2, 2));
        c.noPlace("a ninth off the stage", () -> x.dancer(8, 2));
        c.noPlace("no ninth came", () -> x.knees(8));
    }

    private static void moveAnswers() {
        Stepscript x = new Stepscript();
        x.dancer(3, 3);
        x.dancer(4, 4);
        c.due(1, "first move", () -> x.move(0, 5, 1, 0));
        c.due(2, "second move", () -> x.move(0, 63, 0, -2));
        c.due(2, "in place of one", () -> x.move(0, 5, -2, 2));
        c.due(1, "(0, 0) is none", () -> x.move(0, 5, 0, 0));
        c.due(1, "(0, 0) where none was", () -> x.move(0, 9, 0, 0));
        c.due(2, "rows alone", () -> x.move(0, 0, 0, 1));
        c.due(1, "another one's are not counted", () -> x.move(1, 1, 2, -2));
        c.due(4, "the row in place of one", () -> x.place(0, 62, true));
    }

    private static void moveThrows() {
        Stepscript x = new Stepscript();
        x.dancer(3, 3);
        x.dancer(5, 5);
        x.hurt(1);
        c.noPlace("no dancer", () -> x.move(2, 0, 0, 0));
        c.noPlace("dancer -1", () -> x.move(-1, 0, 0, 0));
        c.noPlace("count -1", () -> x.move(0, -1, 0, 0));
        c.noPlace("count 64", () -> x.move(0, 64, 0, 0));
        c.badArgument("columns 3", () -> x.move(0, 0, 3, 0));
        c.badArgument("columns -3", () -> x.move(0, 0, -3, 0));
        c.badArgument("rows 3", () -> x.move(0, 0, 0, 3));
        c.badArgument("rows least", () -> x.move(0, 0, 0, Integer.MIN_VALUE));
        c.refused("written out", () -> x.move(1, 0, 0, 0));
        c.noPlace("count ahead of columns", () -> x.move(0, 64, 3, 0));
        c.badArgument("columns ahead of written out", () -> x.move(1, 0, 3, 0));
        c.noPlace("count ahead of written out", () -> x.move(1, 64, 0, 0));
        c.due(3, "nothing was changed", () -> x.place(0, 63, false));
        c.due(1, "no move was counted", () -> x.move(0, 1, 1, 1));
    }

    private static void places() {
        Stepscript x = new Stepscript();
        x.dancer(3, 6);
        for (int count = 0; count < 64; count++) {
            x.move(0, count, 2, -2);
        }
        both(x, 0, 0, 5, 4);
        both(x, 0, 10, 25, -16);
        both(x, 0, 63, 131, -122);
        x.move(0, 10, -1, 1);
        both(x, 0, 9, 23, -14);
        both(x, 0, 10, 22, -13);
        both(x, 0, 63, 128, -119);
        x.move(0, 63, 0, 0);
        both(x, 0, 63, 126, -117);
        x.hurt(0);
        both(x, 0, 63, 126, -117);
        for (boolean rows : new boolean[] {false, true}) {
            c.noPlace("place, dancer 1", () -> x.place(1, 0, rows));
            c.noPlace("place, dancer -1", () -> x.place(-1, 0, rows));
            c.noPlace("place, count 64", () -> x.place(0, 64, rows));
            c.noPlace("place, count -1", () -> x.place(0, -1, rows));
            c.noPlace("placeAnew, dancer 1", () -> x.placeAnew(1, 0, rows));
            c.noPlace("placeAnew, dancer -1", () -> x.placeAnew(-1, 0, rows));
            c.noPlace("placeAnew, count 64", () -> x.placeAnew(0, 64, rows));
            c.noPlace("placeAnew, count -1", () -> x.placeAnew(0, -1, rows));
        }
    }

    private static void both(Stepscript x, int dancer, int count, int column, int row) {
        c.due(column, "place column at " + count, () -> x.place(dancer, count, false));
        c.due(row, "place row at " + count, () -> x.place(dancer, count, true));
        c.due(column, "placeAnew column at " + count, () -> x.placeAnew(dancer, count, false));
        c.due(row, "placeAnew row at " + count, () -> x.placeAnew(dancer, count, true));
    }

    private static void clashesOffStage() {
        Stepscript x = new Stepscript();
        x.dancer(0, 0);
        x.dancer(7, 7);
        x.move(0, 1, -1, 0);
        x.move(0, 2, 1, -1);
        x.move(0, 3, 0, 1);
        x.move(1, 1, 1, 1);
        x.move(1, 2, -1, 0);
        c.due(0, "none ahead", () -> x.clashes(0));
        c.due(2, "both off", () -> x.clashes(1));
        c.due(2, "off by rows", () -> x.clashes(2));
        c.due(1, "one came back", () -> x.clashes(3));
        c.due(1, "off to the end", () -> x.clashes(63));
        c.noPlace("count 64", () -> x.clashes(64));
        c.noPlace("count -1", () -> x.clashes(-1));
    }

    private static void clashesAtOnePlace() {
        Stepscript x = new Stepscript();
        x.dancer(0, 0);
        x.dancer(1, 0);
        x.dancer(0, 1);
        x.dancer(1, 1);
        x.move(1, 4, -1, 0);
        c.due(1, "two at one place", () -> x.clashes(4));
        x.move(2, 4, 0, -1);
        c.due(3, "three at one place are three twos", () -> x.clashes(4));
        x.move(3, 4, -1, -1);
        c.due(6, "four at one place", () -> x.clashes(4));
        for (int i = 0; i < 4; i++) {
            x.move(i, 5, -1, 0);
        }
        c.due(10, "off the stage, and at one place", () -> x.clashes(5));
        c.due(0, "ahead of it", () -> x.clashes(3));
    }

    private static void clashesByChange() {
        Stepscript x = new Stepscript();
        x.dancer(2, 2);
        x.dancer(3, 3);
        x.dancer(4, 2);
        x.move(0, 0, 1, 1);
        x.move(1, 0, -1, -1);
        c.due(1, "change with first places", () -> x.clashes(0));
        c.due(0, "the count behind a change", () -> x.clashes(1));
        x.move(0, 7, 1, -1);
        c.due(1, "at the place of one who stays", () -> x.clashes(7));
        x.move(2, 7, -2, 0);
        c.due(0, "a round of places, one goes on", () -> {
            x.move(1, 7, 1, 1);
            return x.clashes(7);
        });
        x.move(0, 8, 0, 0);
        c.due(3, "who is where", () -> x.place(1, 7, false));
        x.move(1, 8, 1, -1);
        x.move(0, 8, -1, 1);
        c.due(1, "change behind the first count", () -> x.clashes(8));
        x.move(0, 8, -2, 0);
        x.move(2, 8, 1, 1);
        c.due(0, "a round of three is no change", () -> x.clashes(8));
    }

    private static void clashesOfWrittenOut() {
        Stepscript x = new Stepscript();
        x.dancer(0, 0);
        x.dancer(1, 0);
        x.move(0, 3, -2, 0);
        x.hurt(0);
        x.move(1, 2, -1, 0);
        c.due(1, "at the place of one written out", () -> x.clashes(2));
        c.due(1, "written out and off the stage", () -> x.clashes(3));
        c.due(2, "first", x::firstClash);
    }

    private static void firstClash() {
        Stepscript x = new Stepscript();
        x.dancer(0, 0);
        x.dancer(7, 7);
        c.due(-1, "none", x::firstClash);
        x.move(0, 63, -1, 0);
        c.due(63, "the last count", x::firstClash);
        x.move(1, 20, 1, 0);
        c.due(20, "an earlier one", x::firstClash);
        x.move(1, 0, 0, 1);
        c.due(0, "count 0", x::firstClash);
        x.move(1, 0, 0, 0);
        x.move(1, 20, 0, 0);
        x.move(0, 63, 1, 0);
        c.due(-1, "none again", x::firstClash);
    }
}
