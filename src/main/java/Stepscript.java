import java.util.ArrayList;
import java.util.Arrays;

/**
 * A dance house: moves on counts, places, clashes, lifts, a map of tempos, rehearsals, and dancers
 * who are hurt. The promises that it keeps are numbered in the document, ../shared/DOC.md.
 */
public final class Stepscript {
    public static final int NONE = -1;

    private static final int STAGE = 8;
    private static final int MOST_DANCERS = 8;
    private static final int COUNTS = 64;
    private static final int FARTHEST_MOVE = 2;

    private static final int MOST_LIFTS = 12;
    private static final int WHATS = 5;
    private static final int NOT_STANDING = 0;
    private static final int STANDING = 1;
    private static final int GONE = 2;

    private static final int FIRST_LAST = 500;
    private static final int LONGEST_LAST = 1000000000;
    private static final long GREATEST_INT = 2147483647L;

    private static final int ROOMS = 3;
    private static final int FIRST_HOUR = 8;
    private static final int HOURS = 13;
    private static final int POINTS_FOR_A_LIFT = 5;
    private static final int MOST_POINTS = 60;
    private static final int POINTS_LESS_A_DAY = 25;

    private static final int MOVES_OF_A_VISIT = 2;
    private static final int MORE_THAN_ANY_MOVES = 3;

    private final ArrayList<Dancer> dancers = new ArrayList<Dancer>();
    private final ArrayList<Lift> lifts = new ArrayList<Lift>();
    /** What counts last from one on; 0 where nothing was told, so that it goes on as ahead of it. */
    private final int[] told = new int[COUNTS];
    /** Who takes part, by room and by hour; NONE where the room is free. */
    private final int[][] plans = new int[ROOMS][HOURS];
    private int day = 0;

    public Stepscript() {
        told[0] = FIRST_LAST;
        freeRooms();
    }

    // Moves and places

    public int dancer(int column, int row) throws IndexOutOfBoundsException, IllegalStateException {
        if (!isOnStage(column) || !isOnStage(row)) {
            throw new IndexOutOfBoundsException("no such place of the stage");
        }
        if (dancers.size() >= MOST_DANCERS) {
            throw new IllegalStateException("no more dancers");
        }
        if (isFirstPlace(column, row)) {
            throw new IllegalStateException("the first place of another one");
        }
        dancers.add(new Dancer(column, row));
        return dancers.size() - 1;
    }

    public int move(int dancer, int count, int columns, int rows)
            throws IndexOutOfBoundsException, IllegalArgumentException, IllegalStateException {
        needDancer(dancer);
        needCount(count);
        if (!isMove(columns) || !isMove(rows)) {
            throw new IllegalArgumentException("too far for a move");
        }
        Dancer mover = dancers.get(dancer);
        if (mover.out) {
            throw new IllegalStateException("written out");
        }
        mover.columns.write(count, columns);
        mover.rows.write(count, rows);
        return mover.countsWithMoves();
    }

    public int place(int dancer, int count, boolean rows) throws IndexOutOfBoundsException {
        needDancer(dancer);
        needCount(count);
        return dancers.get(dancer).track(rows).places[count];
    }

    public int placeAnew(int dancer, int count, boolean rows) throws IndexOutOfBoundsException {
        needDancer(dancer);
        needCount(count);
        return dancers.get(dancer).track(rows).followedTo(count);
    }

    public int clashes(int count) throws IndexOutOfBoundsException {
        needCount(count);
        return clashesAt(count);
    }

    public int firstClash() {
        for (int count = 0; count < COUNTS; count++) {
            if (clashesAt(count) > 0) {
                return count;
            }
        }
        return NONE;
    }

    // Lifts

    public int lift(int count, int lifted, int one, int other)
            throws IndexOutOfBoundsException, IllegalArgumentException, IllegalStateException {
        needCount(count);
        needDancer(lifted);
        needDancer(one);
        needDancer(other);
        if (lifted == one || lifted == other || one == other) {
            throw new IllegalArgumentException("two of them are one");
        }
        if (isOut(lifted) || isOut(one) || isOut(other)) {
            throw new IllegalStateException("written out");
        }
        if (lifts.size() >= MOST_LIFTS) {
            throw new IllegalStateException("no more lifts");
        }
        lifts.add(new Lift(count, lifted, one, other));
        return lifts.size() - 1;
    }

    public int ofLift(int lift, int what) throws IndexOutOfBoundsException, IllegalArgumentException {
        if (lift < 0 || lift >= lifts.size()) {
            throw new IndexOutOfBoundsException("no such lift");
        }
        if (what < 0 || what >= WHATS) {
            throw new IllegalArgumentException("nothing of a lift");
        }
        Lift asked = lifts.get(lift);
        switch (what) {
            case 0:
                return asked.count;
            case 1:
                return asked.lifted;
            case 2:
                return asked.one;
            case 3:
                return asked.other;
            default:
                return stateOf(asked);
        }
    }

    // Tempo

    public int tempo(int from, int last) throws IndexOutOfBoundsException, IllegalArgumentException {
        needCount(from);
        if (last < 1 || last > LONGEST_LAST) {
            throw new IllegalArgumentException("no such last");
        }
        int before = lastOf(from);
        told[from] = last;
        return before;
    }

    public int begins(int count) throws IndexOutOfBoundsException, ArithmeticException {
        needCount(count);
        long sum = lastsAheadOf(count);
        if (sum > GREATEST_INT) {
            throw new ArithmeticException("beyond an int");
        }
        return (int) sum;
    }

    // Rehearsals

    public int rehearse(int room, int hour, int from, int to)
            throws IndexOutOfBoundsException, IllegalArgumentException, IllegalStateException {
        needRoom(room);
        needHour(hour);
        needCount(from);
        needCount(to);
        if (to < from) {
            throw new IllegalArgumentException("ends ahead of its start");
        }
        if (plans[room][hour - FIRST_HOUR] != NONE) {
            throw new IllegalStateException("the room is taken");
        }
        int parts = partsIn(from, to);
        if (isAnyBusy(parts, hour)) {
            throw new IllegalStateException("one takes part in another rehearsal");
        }
        if (!canKneesBear(parts, from, to)) {
            throw new IllegalStateException("too much for the knees of one");
        }
        chargeKnees(parts, from, to);
        plans[room][hour - FIRST_HOUR] = parts;
        return parts;
    }

    public int rehearsal(int room, int hour) throws IndexOutOfBoundsException {
        needRoom(room);
        needHour(hour);
        return plans[room][hour - FIRST_HOUR];
    }

    public int knees(int dancer) throws IndexOutOfBoundsException {
        needDancer(dancer);
        return dancers.get(dancer).points;
    }

    public int sleep() {
        freeRooms();
        for (int i = 0; i < dancers.size(); i++) {
            Dancer rested = dancers.get(i);
            rested.points = Math.max(0, rested.points - POINTS_LESS_A_DAY);
        }
        day++;
        return day;
    }

    // Hurt

    public int hurt(int dancer) throws IndexOutOfBoundsException, IllegalStateException {
        needDancer(dancer);
        if (isOut(dancer)) {
            throw new IllegalStateException("written out");
        }
        dancers.get(dancer).out = true;
        dropLiftsOf(dancer);
        int written = 0;
        for (int i = 0; i < lifts.size(); i++) {
            Lift lift = lifts.get(i);
            if (!lift.gone && lift.isBy(dancer)) {
                written += replaceIn(lift, dancer);
            }
        }
        return written;
    }

    // What must be there

    private void needDancer(int dancer) {
        if (dancer < 0 || dancer >= dancers.size()) {
            throw new IndexOutOfBoundsException("no such dancer");
        }
    }

    private static void needCount(int count) {
        if (count < 0 || count >= COUNTS) {
            throw new IndexOutOfBoundsException("no such count");
        }
    }

    private static void needRoom(int room) {
        if (room < 0 || room >= ROOMS) {
            throw new IndexOutOfBoundsException("no such room");
        }
    }

    private static void needHour(int hour) {
        if (hour < FIRST_HOUR || hour >= FIRST_HOUR + HOURS) {
            throw new IndexOutOfBoundsException("no such hour");
        }
    }

    // Helpers of moves and places

    private static boolean isOnStage(int place) {
        return place >= 0 && place < STAGE;
    }

    private static boolean isMove(int way) {
        return way >= -FARTHEST_MOVE && way <= FARTHEST_MOVE;
    }

    private boolean isFirstPlace(int column, int row) {
        for (int i = 0; i < dancers.size(); i++) {
            Dancer other = dancers.get(i);
            if (other.columns.first == column && other.rows.first == row) {
                return true;
            }
        }
        return false;
    }

    private boolean isOut(int dancer) {
        return dancers.get(dancer).out;
    }

    private int clashesAt(int count) {
        int found = 0;
        for (int i = 0; i < dancers.size(); i++) {
            Dancer one = dancers.get(i);
            if (one.isOffStage(count)) {
                found++;
            }
            for (int j = i + 1; j < dancers.size(); j++) {
                Dancer other = dancers.get(j);
                if (one.isWith(other, count) || one.changesPlacesWith(other, count)) {
                    found++;
                }
            }
        }
        return found;
    }

    // Helpers of lifts

    /** How many lifts that are not gone a dancer is in, on counts from one to a last one. */
    private int liftsWith(int dancer, int from, int to) {
        int found = 0;
        for (int i = 0; i < lifts.size(); i++) {
            Lift lift = lifts.get(i);
            if (!lift.gone && lift.count >= from && lift.count <= to && lift.has(dancer)) {
                found++;
            }
        }
        return found;
    }

    private int stateOf(Lift lift) {
        if (lift.gone) {
            return GONE;
        }
        boolean stands = isFreeFor(lift, lift.lifted) && isFreeFor(lift, lift.one) && isFreeFor(lift, lift.other)
                && isBesideLifted(lift, lift.one) && isBesideLifted(lift, lift.other);
        return stands ? STANDING : NOT_STANDING;
    }

    private boolean isFreeFor(Lift lift, int dancer) {
        // 1 is the lift itself, which is not gone.
        return !isOut(dancer) && liftsWith(dancer, lift.count, lift.count) == 1;
    }

    private boolean isBesideLifted(Lift lift, int dancer) {
        return dancers.get(dancer).isBeside(dancers.get(lift.lifted), lift.count);
    }

    // Helpers of tempo

    private int lastOf(int count) {
        int from = count;
        while (from > 0 && told[from] == 0) {
            from--;
        }
        return told[from];
    }

    private long lastsAheadOf(int count) {
        long sum = 0;
        int last = FIRST_LAST;
        for (int passed = 0; passed < count; passed++) {
            if (told[passed] != 0) {
                last = told[passed];
            }
            sum += last;
        }
        return sum;
    }

    // Helpers of rehearsals

    private void freeRooms() {
        for (int room = 0; room < ROOMS; room++) {
            Arrays.fill(plans[room], NONE);
        }
    }

    private static boolean takesPart(int parts, int dancer) {
        return (parts >> dancer & 1) != 0;
    }

    private int partsIn(int from, int to) {
        int parts = 0;
        for (int i = 0; i < dancers.size(); i++) {
            // Whoever moves or is in a lift there pays at least a point, and nobody else pays.
            if (!isOut(i) && pointsFor(i, from, to) > 0) {
                parts |= 1 << i;
            }
        }
        return parts;
    }

    private int pointsFor(int dancer, int from, int to) {
        Dancer payer = dancers.get(dancer);
        return payer.columns.wayIn(from, to) + payer.rows.wayIn(from, to)
                + POINTS_FOR_A_LIFT * liftsWith(dancer, from, to);
    }

    private boolean isAnyBusy(int parts, int hour) {
        for (int room = 0; room < ROOMS; room++) {
            int others = plans[room][hour - FIRST_HOUR];
            if (others != NONE && (others & parts) != 0) {
                return true;
            }
        }
        return false;
    }

    private boolean canKneesBear(int parts, int from, int to) {
        for (int i = 0; i < dancers.size(); i++) {
            if (takesPart(parts, i) && dancers.get(i).points + pointsFor(i, from, to) > MOST_POINTS) {
                return false;
            }
        }
        return true;
    }

    private void chargeKnees(int parts, int from, int to) {
        for (int i = 0; i < dancers.size(); i++) {
            if (takesPart(parts, i)) {
                dancers.get(i).points += pointsFor(i, from, to);
            }
        }
    }

    // Helpers of hurt

    private void dropLiftsOf(int lifted) {
        for (int i = 0; i < lifts.size(); i++) {
            Lift lift = lifts.get(i);
            if (lift.lifted == lifted) {
                lift.gone = true;
            }
        }
    }

    /** Gives the place of one who lifts to another one, or drops the lift; returns how many moves are written. */
    private int replaceIn(Lift lift, int leaving) {
        int best = NONE;
        int fewest = MORE_THAN_ANY_MOVES;
        for (int i = 0; i < dancers.size(); i++) {
            int needed = movesNeeded(lift, leaving, i);
            if (needed < fewest) {
                best = i;
                fewest = needed;
            }
        }
        if (best == NONE) {
            lift.gone = true;
            return 0;
        }
        if (fewest > 0) {
            dancers.get(best).visit(dancers.get(leaving), lift.count);
        }
        lift.replace(leaving, best);
        return fewest;
    }

    private int movesNeeded(Lift lift, int leaving, int coming) {
        if (isOut(coming) || liftsWith(coming, lift.count, lift.count) > 0) {
            return MORE_THAN_ANY_MOVES;
        }
        if (isBesideLifted(lift, coming)) {
            return 0;
        }
        boolean can = dancers.get(coming).canVisit(dancers.get(leaving), lift.count);
        return can ? MOVES_OF_A_VISIT : MORE_THAN_ANY_MOVES;
    }

    /** The columns, or the rows, of a dancer on all counts. */
    private static final class Track {
        final int first;
        final int[] moves = new int[COUNTS];
        /** The sums of the moves: kept, because firstClash asks for the places of all at every count. */
        final int[] places = new int[COUNTS];

        Track(int first) {
            this.first = first;
            Arrays.fill(places, first);
        }

        void write(int count, int way) {
            int more = way - moves[count];
            moves[count] = way;
            for (int later = count; later < COUNTS; later++) {
                places[later] += more;
            }
        }

        int placeAheadOf(int count) {
            return count > 0 ? places[count - 1] : first;
        }

        int followedTo(int count) {
            int reached = first;
            for (int passed = 0; passed <= count; passed++) {
                reached += moves[passed];
            }
            return reached;
        }

        int wayIn(int from, int to) {
            int way = 0;
            for (int count = from; count <= to; count++) {
                way += Math.abs(moves[count]);
            }
            return way;
        }

        int wayTo(Track goal, int count) {
            return goal.places[count] - places[count];
        }

        boolean canVisit(Track goal, int count) {
            // Behind the last count there is none on which the way back could be written.
            if (count >= COUNTS - 1) {
                return false;
            }
            int way = wayTo(goal, count);
            return isMove(way) && isMove(moves[count] + way) && isMove(moves[count + 1] - way);
        }

        void visit(Track goal, int count) {
            int way = wayTo(goal, count);
            write(count, moves[count] + way);
            write(count + 1, moves[count + 1] - way);
        }
    }

    private static final class Dancer {
        final Track columns;
        final Track rows;
        int points = 0;
        boolean out = false;

        Dancer(int column, int row) {
            columns = new Track(column);
            rows = new Track(row);
        }

        Track track(boolean ofRows) {
            return ofRows ? rows : columns;
        }

        int countsWithMoves() {
            int found = 0;
            for (int count = 0; count < COUNTS; count++) {
                if (columns.moves[count] != 0 || rows.moves[count] != 0) {
                    found++;
                }
            }
            return found;
        }

        boolean isOffStage(int count) {
            return !isOnStage(columns.places[count]) || !isOnStage(rows.places[count]);
        }

        boolean isWith(Dancer other, int count) {
            return columns.wayTo(other.columns, count) == 0 && rows.wayTo(other.rows, count) == 0;
        }

        boolean isBeside(Dancer other, int count) {
            return !isWith(other, count)
                    && Math.abs(columns.wayTo(other.columns, count)) <= 1
                    && Math.abs(rows.wayTo(other.rows, count)) <= 1;
        }

        boolean changesPlacesWith(Dancer other, int count) {
            return takesPlaceOf(other, count) && other.takesPlaceOf(this, count);
        }

        boolean takesPlaceOf(Dancer other, int count) {
            return columns.places[count] == other.columns.placeAheadOf(count)
                    && rows.places[count] == other.rows.placeAheadOf(count);
        }

        boolean canVisit(Dancer goal, int count) {
            return columns.canVisit(goal.columns, count) && rows.canVisit(goal.rows, count);
        }

        void visit(Dancer goal, int count) {
            columns.visit(goal.columns, count);
            rows.visit(goal.rows, count);
        }
    }

    /** A lift; dancers are in it by their numbers. */
    private static final class Lift {
        final int count;
        final int lifted;
        int one;
        int other;
        boolean gone = false;

        Lift(int count, int lifted, int one, int other) {
            this.count = count;
            this.lifted = lifted;
            this.one = one;
            this.other = other;
        }

        boolean isBy(int dancer) {
            return one == dancer || other == dancer;
        }

        boolean has(int dancer) {
            return lifted == dancer || isBy(dancer);
        }

        void replace(int leaving, int coming) {
            if (one == leaving) {
                one = coming;
            } else {
                other = coming;
            }
        }
    }
}
