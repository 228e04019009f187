/** Promises 10 and 11: tempo, begins. */
public final class TempoTest {
    private static final Checks c = new Checks("TempoTest");

    public static void main(String[] args) {
        throwing();
        stretching();
        toldTheSame();
        beyondAnInt();
        c.close();
    }

    private static void throwing() {
        Stepscript x = new Stepscript();
        c.noPlace("from 64", () -> x.tempo(64, 1));
        c.noPlace("from -1", () -> x.tempo(-1, 1));
        c.badArgument("last 0", () -> x.tempo(0, 0));
        c.badArgument("last -1", () -> x.tempo(0, -1));
        c.badArgument("last beyond", () -> x.tempo(0, 1000000001));
        c.noPlace("from ahead of last", () -> x.tempo(64, 0));
        c.noPlace("begins(64)", () -> x.begins(64));
        c.noPlace("begins(-1)", () -> x.begins(-1));
        c.due(31500, "nothing was told", () -> x.begins(63));
    }

    private static void stretching() {
        Stepscript x = new Stepscript();
        c.due(0, "begins(0)", () -> x.begins(0));
        c.due(500, "begins(1)", () -> x.begins(1));
        c.due(500, "at first", () -> x.tempo(10, 100));
        c.due(5000, "the count from which it is told", () -> x.begins(10));
        c.due(5100, "the one behind it", () -> x.begins(11));
        c.due(500, "ahead of it", () -> x.tempo(5, 1000));
        c.due(7500, "up to the next one told", () -> x.begins(10));
        c.due(7600, "from there as told", () -> x.begins(11));
        c.due(100, "to the end", () -> x.tempo(63, 1));
        c.due(12800, "the last count is not in it", () -> x.begins(63));
        c.due(1000, "between", () -> x.tempo(9, 1));
        c.due(1, "told again", () -> x.tempo(9, 2));
        c.due(500, "count 0", () -> x.tempo(0, 1000000000));
        c.due(1000000000, "the longest", () -> x.begins(1));
    }

    private static void toldTheSame() {
        Stepscript x = new Stepscript();
        c.due(500, "what it lasts anyway", () -> x.tempo(10, 500));
        c.due(500, "from the start", () -> x.tempo(0, 1));
        c.due(10, "begins(10)", () -> x.begins(10));
        c.due(510, "10 was told", () -> x.begins(11));
    }

    private static void beyondAnInt() {
        Stepscript x = new Stepscript();
        x.tempo(0, 1000000000);
        x.tempo(2, 147483647);
        x.tempo(3, 1);
        c.due(Integer.MAX_VALUE, "the greatest int", () -> x.begins(3));
        c.thrown(ArithmeticException.class, "one more", () -> x.begins(4));
        c.thrown(ArithmeticException.class, "and on", () -> x.begins(63));
        c.noPlace("no such count", () -> x.begins(64));
        x.tempo(3, 1000000000);
        for (int count = 4; count < 64; count++) {
            int asked = count;
            c.thrown(ArithmeticException.class, "past every wrap at " + count, () -> x.begins(asked));
        }
        x.tempo(0, 1);
        c.due(147483649, "shorter again", () -> x.begins(3));
    }
}
