import java.util.ArrayList;
import java.util.Arrays;
import java.util.List;

/**
 * The document once more, written for reading alone: other means than the program's where there are any
 * (the tips are found by trying and proved by tipping), and a new row for every thought.
 */
final class NaiveSeesaw {
    private long[] row = new long[6];
    private List<long[]> kept = new ArrayList<>();
    private long done = 0;

    public int lay(int places) {
        argument(places >= 3 && places <= 12);
        int before = row.length;
        row = new long[places];
        kept = new ArrayList<>();
        return before;
    }

    public int put(int place, int number) {
        index(place, row.length);
        argument(Math.abs((long) number) <= 999);
        int before = (int) row[place];
        row[place] = number;
        return before;
    }

    public int tip(int place, int times) {
        index(place, row.length);
        argument(Math.abs((long) times) <= 50);
        row = tipped(row, place, times);
        done += Math.abs(times);
        return (int) row[place];
    }

    public int turn() {
        long[] turned = new long[row.length];
        for (int place = 0; place < row.length; place++) {
            turned[(place + 1) % row.length] = row[place];
        }
        row = turned;
        return (int) row[0];
    }

    public int keep() {
        state(kept.size() < 6);
        kept.add(row.clone());
        return kept.size() - 1;
    }

    public int settle(int steps) {
        argument(steps >= 1 && steps <= 200);
        int before = (int) done;
        for (int step = 0; step < steps; step++) {
            if (nextToTip() >= 0) {
                tip(nextToTip(), 1);
            }
        }
        return (int) done - before;
    }

    public int reach(int target) {
        index(target, kept.size());
        long[] tips = tipsBetween(row, kept.get(target));
        state(tips != null);
        int fewest = fewestOf(tips);
        for (int place = 0; place < tips.length; place++) {
            row = tipped(row, place, tips[place]);
        }
        done += fewest;
        return fewest;
    }

    public int places() {
        return row.length;
    }

    public int numberAt(int place) {
        index(place, row.length);
        return (int) row[place];
    }

    public int targets() {
        return kept.size();
    }

    public int tips() {
        return (int) done;
    }

    public int sum() {
        return (int) Arrays.stream(row).sum();
    }

    public int moment() {
        long moments = 0;
        for (int place = 0; place < row.length; place++) {
            moments += place * row[place];
        }
        while (moments < 0) {
            moments += 1000000L * row.length;
        }
        return (int) (moments % row.length);
    }

    public int spread() {
        return spreadOf(row);
    }

    public int highest() {
        for (int place = 0; place < row.length; place++) {
            if (row[place] == Arrays.stream(row).max().getAsLong()) {
                return place;
            }
        }
        return -1;
    }

    public boolean isSteep(int place) {
        index(place, row.length);
        int places = row.length;
        return 2 * row[place] - row[(place + 1) % places] - row[(place + places - 1) % places] > 3;
    }

    public int steepPlaces() {
        int count = 0;
        for (int place = 0; place < row.length; place++) {
            count += isSteep(place) ? 1 : 0;
        }
        return count;
    }

    public int nextToTip() {
        int first = -1;
        for (int place = row.length - 1; place >= 0; place--) {
            first = isSteep(place) ? place : first;
        }
        return first;
    }

    public int tilt(int axis) {
        index(axis, row.length);
        int places = row.length;
        long tilt = 0;
        for (int distance = 1; distance <= (places - 1) / 2; distance++) {
            tilt += distance * row[(axis + distance) % places];
            tilt -= distance * row[(axis - distance + places) % places];
        }
        return (int) tilt;
    }

    public int levelAxes() {
        int count = 0;
        for (int axis = 0; axis < row.length; axis++) {
            count += tilt(axis) == 0 ? 1 : 0;
        }
        return count;
    }

    public int bestAxis() {
        int best = row.length - 1;
        for (int axis = row.length - 1; axis >= 0; axis--) {
            best = Math.abs(tilt(axis)) <= Math.abs(tilt(best)) ? axis : best;
        }
        return best;
    }

    public int numberIn(int target, int place) {
        index(target, kept.size());
        index(place, row.length);
        return (int) kept.get(target)[place];
    }

    public int differences(int target) {
        index(target, kept.size());
        int count = 0;
        for (int place = 0; place < row.length; place++) {
            count += kept.get(target)[place] == row[place] ? 0 : 1;
        }
        return count;
    }

    public boolean canReach(int target) {
        index(target, kept.size());
        return tipsBetween(row, kept.get(target)) != null;
    }

    public int reachable() {
        int count = 0;
        for (int target = 0; target < kept.size(); target++) {
            count += canReach(target) ? 1 : 0;
        }
        return count;
    }

    public int tipsTo(int target, int place) {
        index(target, kept.size());
        index(place, row.length);
        state(canReach(target));
        return (int) tipsBetween(row, kept.get(target))[place];
    }

    public int fewestTips(int target) {
        return canReach(target) ? fewestOf(tipsBetween(row, kept.get(target))) : -1;
    }

    public int nearestTarget() {
        int nearest = -1;
        for (int target = kept.size() - 1; target >= 0; target--) {
            if (canReach(target) && (nearest < 0 || fewestTips(target) <= fewestTips(nearest))) {
                nearest = target;
            }
        }
        return nearest;
    }

    public int stepsToRest() {
        NaiveSeesaw other = copy();
        for (int steps = 0; steps <= 300; steps++) {
            if (other.steepPlaces() == 0) {
                return steps;
            }
            other.settle(1);
        }
        return -1;
    }

    public int spreadAtRest() {
        int steps = stepsToRest();
        NaiveSeesaw other = copy();
        for (int step = 0; step < steps; step++) {
            other.settle(1);
        }
        return steps < 0 ? -1 : other.spread();
    }

    public int spreadWith(int place, int times) {
        NaiveSeesaw other = copy();
        other.tip(place, times);
        return other.spread();
    }

    public int bestPlace() {
        int best = -1;
        int smallest = spread();
        for (int place = 0; place < row.length; place++) {
            for (int times = -1; times <= 1; times += 2) {
                if (spreadWith(place, times) < smallest) {
                    best = place;
                    smallest = spreadWith(place, times);
                }
            }
        }
        return best;
    }

    public int placeFor(int number) {
        argument(Math.abs((long) number) <= 999);
        for (int place = 0; place < row.length && !kept.isEmpty(); place++) {
            NaiveSeesaw other = copy();
            other.put(place, number);
            if (other.canReach(0)) {
                return place;
            }
        }
        return -1;
    }

    public double meanNumber() {
        return (double) sum() / row.length;
    }

    public long digest() {
        long[] heads = {places(), targets(), tips(), sum(), moment(), spread(), highest(), steepPlaces(), nextToTip(),
            levelAxes(), bestAxis(), reachable(), nearestTarget(), stepsToRest(), spreadAtRest(), bestPlace(),
            placeFor(0)};
        long d = 2333;
        for (long head : heads) {
            d = 31 * d + head;
        }
        for (int place = 0; place < row.length; place++) {
            d = 31 * d + row[place];
            d = 31 * d + (isSteep(place) ? 1 : 0);
            d = 31 * d + tilt(place);
        }
        for (int target = 0; target < kept.size(); target++) {
            d = 31 * d + differences(target);
            d = 31 * d + (canReach(target) ? 1 : 0);
            d = 31 * d + fewestTips(target);
        }
        return d;
    }

    private NaiveSeesaw copy() {
        NaiveSeesaw other = new NaiveSeesaw();
        other.row = row.clone();
        other.kept = new ArrayList<>(kept);
        other.done = done;
        return other;
    }

    private static int spreadOf(long[] row) {
        return (int) (Arrays.stream(row).max().getAsLong() - Arrays.stream(row).min().getAsLong());
    }

    private static long[] tipped(long[] row, int place, long times) {
        long[] after = row.clone();
        after[place] -= 2 * times;
        after[(place + 1) % row.length] += times;
        after[(place + row.length - 1) % row.length] += times;
        return after;
    }

    /** null where there are none. */
    private static long[] tipsBetween(long[] from, long[] to) {
        int places = from.length;
        long missedBy = guessed(from, to, 0)[places];
        // Each tip more that is guessed for place 1 misses place 0, once round, by one more for each place.
        if (missedBy % places != 0) {
            return null;
        }
        long[] tips = Arrays.copyOf(guessed(from, to, -missedBy / places), places);
        long[] after = from;
        for (int place = 0; place < places; place++) {
            after = tipped(after, place, tips[place]);
        }
        return Arrays.equals(after, to) ? tips : null;
    }

    /** The tips if place 0 has none and place 1 these; behind the last stands what place 0 would need then. */
    private static long[] guessed(long[] from, long[] to, long first) {
        int places = from.length;
        long[] tips = new long[places + 1];
        tips[1] = first;
        for (int place = 1; place < places; place++) {
            tips[place + 1] = to[place] - from[place] + 2 * tips[place] - tips[place - 1];
        }
        return tips;
    }

    private static int fewestOf(long[] tips) {
        long[] sorted = tips.clone();
        Arrays.sort(sorted);
        long count = 0;
        for (long tip : sorted) {
            count += Math.abs(tip - sorted[sorted.length / 2]);
        }
        return (int) count;
    }

    private static void index(int value, int bound) {
        if (value < 0 || value >= bound) {
            throw new IndexOutOfBoundsException();
        }
    }

    private static void argument(boolean holds) {
        if (!holds) {
            throw new IllegalArgumentException();
        }
    }

    private static void state(boolean holds) {
        if (!holds) {
            throw new IllegalStateException();
        }
    }
}
