import java.util.ArrayList;
import java.util.List;
import java.util.TreeMap;
import java.util.TreeSet;

/** The document once more, slowly: nothing is kept that can be found from what was told. */
final class PlainHouse {
    private final List<int[]> firsts = new ArrayList<>();
    private final List<TreeMap<Integer, int[]>> moves = new ArrayList<>();
    private final List<Integer> points = new ArrayList<>();
    private final TreeSet<Integer> out = new TreeSet<>();
    private final List<int[]> lifts = new ArrayList<>();
    private final TreeSet<Integer> gone = new TreeSet<>();
    private final TreeMap<Integer, Integer> tempos = new TreeMap<>();
    private final TreeMap<String, TreeSet<Integer>> plans = new TreeMap<>();
    private int day = 0;

    private static void index(boolean good) {
        if (!good) {
            throw new IndexOutOfBoundsException();
        }
    }

    private static void argument(boolean good) {
        if (!good) {
            throw new IllegalArgumentException();
        }
    }

    private static void state(boolean good) {
        if (!good) {
            throw new IllegalStateException();
        }
    }

    private static boolean in(int number, int least, int most) {
        return least <= number && number <= most;
    }

    private boolean known(int dancer) {
        return in(dancer, 0, firsts.size() - 1);
    }

    int dancer(int column, int row) {
        index(in(column, 0, 7) && in(row, 0, 7));
        for (int[] first : firsts) {
            state(first[0] != column || first[1] != row);
        }
        state(firsts.size() < 8);
        firsts.add(new int[] {column, row});
        moves.add(new TreeMap<>());
        points.add(0);
        return firsts.size() - 1;
    }

    int move(int dancer, int count, int columns, int rows) {
        index(known(dancer) && in(count, 0, 63));
        argument(in(columns, -2, 2) && in(rows, -2, 2));
        state(!out.contains(dancer));
        write(dancer, count, columns, rows);
        return moves.get(dancer).size();
    }

    private void write(int dancer, int count, int columns, int rows) {
        moves.get(dancer).remove(count);
        if (columns != 0 || rows != 0) {
            moves.get(dancer).put(count, new int[] {columns, rows});
        }
    }

    private int[] moveOn(int dancer, int count) {
        return moves.get(dancer).getOrDefault(count, new int[2]);
    }

    private int[] at(int dancer, int count) {
        int[] place = firsts.get(dancer).clone();
        for (int[] way : moves.get(dancer).headMap(count, true).values()) {
            place[0] += way[0];
            place[1] += way[1];
        }
        return place;
    }

    int place(int dancer, int count, boolean rows) {
        index(known(dancer) && in(count, 0, 63));
        return at(dancer, count)[rows ? 1 : 0];
    }

    private static boolean same(int[] a, int[] b) {
        return a[0] == b[0] && a[1] == b[1];
    }

    int clashes(int count) {
        index(in(count, 0, 63));
        int found = 0;
        for (int a = 0; a < firsts.size(); a++) {
            int[] here = at(a, count);
            found += in(here[0], 0, 7) && in(here[1], 0, 7) ? 0 : 1;
            for (int b = 0; b < a; b++) {
                int[] there = at(b, count);
                boolean change = same(here, at(b, count - 1)) && same(there, at(a, count - 1));
                found += same(here, there) || change ? 1 : 0;
            }
        }
        return found;
    }

    int firstClash() {
        for (int count = 0; count < 64; count++) {
            if (clashes(count) != 0) {
                return count;
            }
        }
        return -1;
    }

    int lift(int count, int lifted, int one, int other) {
        index(in(count, 0, 63) && known(lifted) && known(one) && known(other));
        argument(lifted != one && one != other && other != lifted);
        state(!out.contains(lifted) && !out.contains(one) && !out.contains(other));
        state(lifts.size() < 12);
        lifts.add(new int[] {count, lifted, one, other});
        return lifts.size() - 1;
    }

    int ofLift(int lift, int what) {
        index(in(lift, 0, lifts.size() - 1));
        argument(in(what, 0, 4));
        if (what < 4) {
            return lifts.get(lift)[what];
        }
        return gone.contains(lift) ? 2 : stands(lift) ? 1 : 0;
    }

    private boolean stands(int lift) {
        int[] it = lifts.get(lift);
        for (int i = 1; i < 4; i++) {
            if (out.contains(it[i]) || i > 1 && !beside(it[i], it[1], it[0])) {
                return false;
            }
            for (int others : liftsOn(it[0])) {
                if (others != lift && isIn(it[i], others)) {
                    return false;
                }
            }
        }
        return true;
    }

    private List<Integer> liftsOn(int count) {
        List<Integer> found = new ArrayList<>();
        for (int i = 0; i < lifts.size(); i++) {
            if (!gone.contains(i) && lifts.get(i)[0] == count) {
                found.add(i);
            }
        }
        return found;
    }

    private boolean isIn(int dancer, int lift) {
        int[] it = lifts.get(lift);
        return it[1] == dancer || it[2] == dancer || it[3] == dancer;
    }

    private boolean beside(int a, int b, int count) {
        int[] here = at(a, count);
        int[] there = at(b, count);
        return !same(here, there) && in(here[0] - there[0], -1, 1) && in(here[1] - there[1], -1, 1);
    }

    private int lastOn(int count) {
        return tempos.headMap(count, true).isEmpty() ? 500 : tempos.floorEntry(count).getValue();
    }

    int tempo(int from, int last) {
        index(in(from, 0, 63));
        argument(in(last, 1, 1000000000));
        int before = lastOn(from);
        tempos.put(from, last);
        return before;
    }

    int begins(int count) {
        index(in(count, 0, 63));
        int sum = 0;
        for (int i = 0; i < count; i++) {
            sum = Math.addExact(sum, lastOn(i));
        }
        return sum;
    }

    private static String key(int room, int hour) {
        return room + " " + hour;
    }

    private static int sum(TreeSet<Integer> parts) {
        int sum = 0;
        for (int part : parts) {
            sum += 1 << part;
        }
        return sum;
    }

    int rehearse(int room, int hour, int from, int to) {
        index(in(room, 0, 2) && in(hour, 8, 20) && in(from, 0, 63) && in(to, 0, 63));
        argument(from <= to);
        state(!plans.containsKey(key(room, hour)));
        int[] costs = new int[firsts.size()];
        TreeSet<Integer> parts = new TreeSet<>();
        for (int dancer = 0; dancer < firsts.size(); dancer++) {
            for (int count = from; count <= to; count++) {
                int[] way = moveOn(dancer, count);
                costs[dancer] += Math.abs(way[0]) + Math.abs(way[1]);
                boolean there = !same(way, new int[2]);
                for (int lift : liftsOn(count)) {
                    there |= isIn(dancer, lift);
                    costs[dancer] += isIn(dancer, lift) ? 5 : 0;
                }
                if (there && !out.contains(dancer)) {
                    parts.add(dancer);
                }
            }
        }
        for (int part : parts) {
            for (int others = 0; others < 3; others++) {
                TreeSet<Integer> plan = plans.get(key(others, hour));
                state(plan == null || !plan.contains(part));
            }
            state(points.get(part) + costs[part] <= 60);
        }
        for (int part : parts) {
            points.set(part, points.get(part) + costs[part]);
        }
        plans.put(key(room, hour), parts);
        return sum(parts);
    }

    int rehearsal(int room, int hour) {
        index(in(room, 0, 2) && in(hour, 8, 20));
        return plans.containsKey(key(room, hour)) ? sum(plans.get(key(room, hour))) : -1;
    }

    int knees(int dancer) {
        index(known(dancer));
        return points.get(dancer);
    }

    int hurt(int dancer) {
        index(known(dancer));
        state(out.add(dancer));
        for (int i = 0; i < lifts.size(); i++) {
            if (lifts.get(i)[1] == dancer) {
                gone.add(i);
            }
        }
        int written = 0;
        for (int i = 0; i < lifts.size(); i++) {
            int[] it = lifts.get(i);
            if (gone.contains(i) || !isIn(dancer, i)) {
                continue;
            }
            List<Integer> beside = new ArrayList<>();
            List<Integer> coming = new ArrayList<>();
            for (int other = 0; other < firsts.size(); other++) {
                if (out.contains(other) || isBusy(other, it[0])) {
                    continue;
                }
                if (beside(other, it[1], it[0])) {
                    beside.add(other);
                } else if (afterVisit(other, dancer, it[0]) != null) {
                    coming.add(other);
                }
            }
            if (beside.isEmpty() && coming.isEmpty()) {
                gone.add(i);
                continue;
            }
            int taken = beside.isEmpty() ? coming.get(0) : beside.get(0);
            if (beside.isEmpty()) {
                int[] ways = afterVisit(taken, dancer, it[0]);
                write(taken, it[0], ways[0], ways[1]);
                write(taken, it[0] + 1, ways[2], ways[3]);
                written += 2;
            }
            it[it[2] == dancer ? 2 : 3] = taken;
        }
        return written;
    }

    private boolean isBusy(int dancer, int count) {
        for (int lift : liftsOn(count)) {
            if (isIn(dancer, lift)) {
                return true;
            }
        }
        return false;
    }

    /** The moves on a count and the next one that bring a dancer to another one's place, or null. */
    private int[] afterVisit(int dancer, int goal, int count) {
        if (count == 63) {
            return null;
        }
        int[] way = {at(goal, count)[0] - at(dancer, count)[0], at(goal, count)[1] - at(dancer, count)[1]};
        int[] there = moveOn(dancer, count);
        int[] back = moveOn(dancer, count + 1);
        int[] ways = {there[0] + way[0], there[1] + way[1], back[0] - way[0], back[1] - way[1]};
        boolean can = in(way[0], -2, 2) && in(way[1], -2, 2);
        for (int each : ways) {
            can &= in(each, -2, 2);
        }
        return can ? ways : null;
    }

    int sleep() {
        plans.clear();
        points.replaceAll(had -> Math.max(had - 25, 0));
        return ++day;
    }
}
