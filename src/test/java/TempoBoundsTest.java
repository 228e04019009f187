/** What the document says of tempo, promises 10 and 11, at its bounds: a test for each sentence. */
public final class TempoBoundsTest {
    private static final int LEAST = Integer.MIN_VALUE;
    private static final int MOST = Integer.MAX_VALUE;
    private static final Checks c = new Checks("TempoBoundsTest");

    public static void main(String[] args) {
        counts();
        atFirst();
        lasts();
        fromACountOn();
        upToTheNextOneTold();
        lastedBefore();
        firstCount();
        greatestInt();
        greatestIntAtTheLastCount();
        pastTheWraps();
        shorterAgain();
        c.close();
    }

    /** "There are the counts 0 to 63." */
    private static void counts() {
        Stepscript x = new Stepscript();
        for (int none : new int[] {LEAST, -64, -1, 64, 65, MOST}) {
            c.noPlace(x, "tempo", none, 500);
            c.noPlace(x, "begins", none);
        }
        for (int count = 0; count < 64; count++) {
            c.due(500, x, "tempo", count, 500);
            c.due(500 * count, x, "begins", count);
        }
    }

    /** "A count lasts 500 thousandths of a second at first". */
    private static void atFirst() {
        for (int count = 0; count < 64; count++) {
            Stepscript x = new Stepscript();
            c.due(500 * count, x, "begins", count);
            c.due(500, x, "tempo", count, 1);
        }
    }

    /** "1 to 1000000000". */
    private static void lasts() {
        Stepscript x = new Stepscript();
        for (int none : new int[] {LEAST, -1000000000, -1, 0, 1000000001, MOST}) {
            c.badArgument(x, "tempo", 0, none);
            c.badArgument(x, "tempo", 63, none);
        }
        int[] lasts = {1, 2, 999999999, 1000000000, 1};
        int before = 500;
        for (int last : lasts) {
            c.due(before, x, "tempo", 0, last);
            c.due(last, x, "begins", 1);
            before = last;
        }
        c.due(63, x, "begins", 63);
    }

    /** "from a count on it can be told": that count is the first one that lasts so. */
    private static void fromACountOn() {
        for (int from = 0; from < 64; from++) {
            Stepscript x = new Stepscript();
            c.due(500, x, "tempo", from, 7);
            for (int count = 0; count < 64; count++) {
                int due = count <= from ? 500 * count : 500 * from + 7 * (count - from);
                c.due(due, x, "begins", count);
            }
        }
    }

    /** "up to the next count from which something else was told", whichever of both was told first. */
    private static void upToTheNextOneTold() {
        for (int next = 1; next < 64; next++) {
            for (int order = 0; order < 2; order++) {
                Stepscript x = new Stepscript();
                c.due(500, x, "tempo", order == 0 ? 0 : next, order == 0 ? 10 : 3);
                c.due(order == 0 ? 10 : 500, x, "tempo", order == 0 ? next : 0, order == 0 ? 3 : 10);
                c.due(10 * next, x, "begins", next);
                for (int count = next + 1; count < 64; count++) {
                    c.due(10 * next + 3 * (count - next), x, "begins", count);
                }
                c.due(10, x, "tempo", next - 1, 10);
                c.due(3, x, "tempo", 63, 3);
            }
        }
        // What is told of the first of three does not go past the second one.
        Stepscript x = new Stepscript();
        c.due(500, x, "tempo", 10, 100);
        c.due(100, x, "tempo", 20, 200);
        c.due(500, x, "tempo", 0, 1);
        c.due(110, x, "begins", 11);
        c.due(100, x, "tempo", 10, 5);
        c.due(60, x, "begins", 20);
        c.due(260, x, "begins", 21);
    }

    /** "Returns what that count lasted before." */
    private static void lastedBefore() {
        Stepscript x = new Stepscript();
        c.due(500, x, "tempo", 5, 1000000000);
        c.due(1000000000, x, "tempo", 5, 1);
        c.due(500, x, "tempo", 4, 2);
        c.due(1, x, "tempo", 5, 1);
        c.due(1, x, "tempo", 6, 3);
        c.due(3, x, "tempo", 63, 4);
        c.due(4, x, "tempo", 63, 5);
        c.due(3, x, "tempo", 62, 6);
    }

    /** "the sum of what all counts ahead of it last": of count 0 there are none. */
    private static void firstCount() {
        Stepscript x = new Stepscript();
        c.due(0, x, "begins", 0);
        c.due(500, x, "tempo", 0, 1000000000);
        c.due(0, x, "begins", 0);
        c.due(1000000000, x, "begins", 1);
        c.due(2000000000, x, "begins", 2);
        c.beyond(x, "begins", 3);
        c.due(0, x, "begins", 0);
    }

    /** "it is refused, if that is beyond an int": not the greatest int, but one beyond it. */
    private static void greatestInt() {
        Stepscript x = new Stepscript();
        c.due(500, x, "tempo", 0, 1000000000);
        c.due(1000000000, x, "tempo", 2, 147483646);
        c.due(147483646, x, "tempo", 3, 1000000000);
        c.due(MOST - 1, x, "begins", 3);
        c.due(147483646, x, "tempo", 2, 147483647);
        c.due(MOST, x, "begins", 3);
        c.beyond(x, "begins", 4);
        c.due(147483647, x, "tempo", 2, 147483648);
        c.beyond(x, "begins", 3);
        c.due(2000000000, x, "begins", 2);
        // One by one past the greatest int.
        c.due(147483648, x, "tempo", 2, 147483646);
        c.due(1000000000, x, "tempo", 3, 1);
        c.due(MOST, x, "begins", 4);
        c.beyond(x, "begins", 5);
    }

    /** The same where all 63 counts ahead of the last one are needed. */
    private static void greatestIntAtTheLastCount() {
        Stepscript x = new Stepscript();
        int most = MOST / 63;
        c.due(500, x, "tempo", 0, most);
        c.due(most * 63, x, "begins", 63);
        c.due(most, x, "tempo", 62, most + MOST % 63);
        c.due(MOST, x, "begins", 63);
        c.due(most + MOST % 63, x, "tempo", 62, most + MOST % 63 + 1);
        c.beyond(x, "begins", 63);
        c.due(most * 62, x, "begins", 62);
        // What the last count lasts is in no sum.
        c.due(most + MOST % 63 + 1, x, "tempo", 62, 1);
        c.due(1, x, "tempo", 63, 1000000000);
        c.due(most * 62 + 1, x, "begins", 63);
    }

    /** "beyond an int" is so too where an int would have come round to 0, or above it. */
    private static void pastTheWraps() {
        Stepscript x = new Stepscript();
        c.due(500, x, "tempo", 0, 1000000000);
        for (int count = 3; count < 64; count++) {
            c.beyond(x, "begins", count);
        }
        c.due(1000000000, x, "tempo", 4, 294967296);
        c.due(294967296, x, "tempo", 5, 1);
        for (int count = 3; count < 64; count++) {
            c.beyond(x, "begins", count);
        }
    }

    /** A refused sum stays with nobody: told shorter, the count begins again. */
    private static void shorterAgain() {
        Stepscript x = new Stepscript();
        c.due(500, x, "tempo", 62, 1000000000);
        c.due(1000031000, x, "begins", 63);
        c.due(500, x, "tempo", 0, 1000000000);
        c.beyond(x, "begins", 63);
        c.due(1000000000, x, "tempo", 0, 1);
        c.due(1000000062, x, "begins", 63);
    }
}
