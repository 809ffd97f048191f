/** A seesaw of numbers on a ring. */
public final class RingSeesaw {
    private static final int LEAST_PLACES = 3;
    private static final int FIRST_PLACES = 6;
    private static final int MOST_PLACES = 12;
    private static final int MOST_TARGETS = 6;
    private static final int MOST_NUMBER = 999;
    private static final int MOST_TIMES = 50;
    private static final int MOST_STEPS = 200;
    private static final int MOST_STEPS_TO_REST = 300;
    private static final int STEEP_ABOVE = 3;
    private static final long DIGEST_START = 2333;
    private static final long DIGEST_FACTOR = 31;

    private final Ring ring = new Ring();
    private final Ring[] kept = new Ring[MOST_TARGETS];
    private int keptCount = 0;
    private int tipsDone = 0;
    // What only would be is tried here, so that no question makes a row of its own.
    private final Ring trial = new Ring();
    private final Way way = new Way();

    public RingSeesaw() {
        for (int target = 0; target < kept.length; target++) {
            kept[target] = new Ring();
        }
    }

    // ---- the ring

    public int lay(int places) throws IllegalArgumentException {
        if (places < LEAST_PLACES || places > MOST_PLACES) {
            throw new IllegalArgumentException("places is not 3 to 12");
        }
        int before = ring.size();
        ring.clear(places);
        keptCount = 0;
        return before;
    }

    public int put(int place, int number) throws IndexOutOfBoundsException, IllegalArgumentException {
        requirePlace(place);
        requireNumber(number);
        int before = ring.at(place);
        ring.write(place, number);
        return before;
    }

    public int tip(int place, int times) throws IndexOutOfBoundsException, IllegalArgumentException {
        requirePlace(place);
        requireTimes(times);
        ring.tipBy(place, times);
        tipsDone += Math.abs(times);
        return ring.at(place);
    }

    public int turn() {
        ring.rotate();
        return ring.at(0);
    }

    public int keep() throws IllegalStateException {
        if (keptCount >= MOST_TARGETS) {
            throw new IllegalStateException("there are 6 targets");
        }
        int target = keptCount;
        keptCount = target + 1;
        keptRing(target).copyFrom(ring);
        return target;
    }

    public int settle(int steps) throws IllegalArgumentException {
        if (steps < 1 || steps > MOST_STEPS) {
            throw new IllegalArgumentException("steps is not 1 to 200");
        }
        int done = ring.settleBy(steps);
        tipsDone += done;
        return done;
    }

    public int reach(int target) throws IndexOutOfBoundsException, IllegalStateException {
        Ring wanted = keptRing(target);
        requireWayTo(wanted);
        int fewest = fewestTo(wanted);
        ring.copyFrom(wanted);
        tipsDone += fewest;
        return fewest;
    }

    // ---- what there is

    public int places() {
        return ring.size();
    }

    public int numberAt(int place) throws IndexOutOfBoundsException {
        requirePlace(place);
        return ring.at(place);
    }

    public int targets() {
        return keptCount;
    }

    public int tips() {
        return tipsDone;
    }

    public int sum() {
        return ring.total();
    }

    public int moment() {
        return ring.momentLeft();
    }

    public int spread() {
        return ring.span();
    }

    public int highest() {
        return ring.firstGreatest();
    }

    // ---- steep and level

    public boolean isSteep(int place) throws IndexOutOfBoundsException {
        requirePlace(place);
        return ring.steepAt(place);
    }

    public int steepPlaces() {
        int count = 0;
        for (int place = 0; place < ring.size(); place++) {
            if (ring.steepAt(place)) {
                count++;
            }
        }
        return count;
    }

    public int nextToTip() {
        return ring.firstSteep();
    }

    public int tilt(int axis) throws IndexOutOfBoundsException {
        requirePlace(axis);
        return ring.tiltOn(axis);
    }

    public int levelAxes() {
        int count = 0;
        for (int axis = 0; axis < ring.size(); axis++) {
            if (ring.tiltOn(axis) == 0) {
                count++;
            }
        }
        return count;
    }

    public int bestAxis() {
        int best = 0;
        for (int axis = 1; axis < ring.size(); axis++) {
            if (Math.abs(ring.tiltOn(axis)) < Math.abs(ring.tiltOn(best))) {
                best = axis;
            }
        }
        return best;
    }

    // ---- targets

    public int numberIn(int target, int place) throws IndexOutOfBoundsException {
        Ring wanted = keptRing(target);
        requirePlace(place);
        return wanted.at(place);
    }

    public int differences(int target) throws IndexOutOfBoundsException {
        return ring.differencesFrom(keptRing(target));
    }

    public boolean canReach(int target) throws IndexOutOfBoundsException {
        return ring.canBecome(keptRing(target));
    }

    public int reachable() {
        int count = 0;
        for (int target = 0; target < keptCount; target++) {
            if (ring.canBecome(keptRing(target))) {
                count++;
            }
        }
        return count;
    }

    public int tipsTo(int target, int place) throws IndexOutOfBoundsException, IllegalStateException {
        Ring wanted = keptRing(target);
        requirePlace(place);
        requireWayTo(wanted);
        way.find(ring, wanted);
        return way.tipsAt(place);
    }

    public int fewestTips(int target) throws IndexOutOfBoundsException {
        return fewestTo(keptRing(target));
    }

    public int nearestTarget() {
        int nearest = -1;
        int fewest = -1;
        for (int target = 0; target < keptCount; target++) {
            int count = fewestTo(keptRing(target));
            if (count >= 0 && (nearest < 0 || count < fewest)) {
                nearest = target;
                fewest = count;
            }
        }
        return nearest;
    }

    // ---- what would be

    public int stepsToRest() {
        return tryToRest();
    }

    public int spreadAtRest() {
        return tryToRest() < 0 ? -1 : trial.span();
    }

    public int spreadWith(int place, int times) throws IndexOutOfBoundsException, IllegalArgumentException {
        requirePlace(place);
        requireTimes(times);
        return spanAfter(place, times);
    }

    public int bestPlace() {
        int best = -1;
        int smallest = ring.span();
        for (int place = 0; place < ring.size(); place++) {
            int span = Math.min(spanAfter(place, 1), spanAfter(place, -1));
            if (span < smallest) {
                best = place;
                smallest = span;
            }
        }
        return best;
    }

    public int placeFor(int number) throws IllegalArgumentException {
        requireNumber(number);
        return keptCount == 0 ? -1 : firstPlaceFor(number, keptRing(0));
    }

    public double meanNumber() {
        int size = ring.size();
        return size > 0 ? (double) ring.total() / size : 0.0;
    }

    public long digest() {
        long d = DIGEST_START;
        d = mixed(d, places());
        d = mixed(d, targets());
        d = mixed(d, tips());
        d = mixed(d, sum());
        d = mixed(d, moment());
        d = mixed(d, spread());
        d = mixed(d, highest());
        d = mixed(d, steepPlaces());
        d = mixed(d, nextToTip());
        d = mixed(d, levelAxes());
        d = mixed(d, bestAxis());
        d = mixed(d, reachable());
        d = mixed(d, nearestTarget());
        d = mixed(d, stepsToRest());
        d = mixed(d, spreadAtRest());
        d = mixed(d, bestPlace());
        d = mixed(d, placeFor(0));
        return mixedWithTargets(mixedWithPlaces(d));
    }

    private long mixedWithPlaces(long start) {
        long d = start;
        for (int place = 0; place < ring.size(); place++) {
            d = mixed(d, ring.at(place));
            d = mixed(d, ring.steepAt(place) ? 1 : 0);
            d = mixed(d, ring.tiltOn(place));
        }
        return d;
    }

    private long mixedWithTargets(long start) {
        long d = start;
        for (int target = 0; target < keptCount; target++) {
            Ring wanted = keptRing(target);
            d = mixed(d, ring.differencesFrom(wanted));
            d = mixed(d, ring.canBecome(wanted) ? 1 : 0);
            d = mixed(d, fewestTo(wanted));
        }
        return d;
    }

    private static long mixed(long d, long x) {
        return d * DIGEST_FACTOR + x;
    }

    private void requirePlace(int place) {
        if (place < 0 || place >= ring.size()) {
            throw new IndexOutOfBoundsException("there is no such place");
        }
    }

    private void requireNumber(int number) {
        if (number < -MOST_NUMBER || number > MOST_NUMBER) {
            throw new IllegalArgumentException("number is not -999 to 999");
        }
    }

    private void requireTimes(int times) {
        if (times < -MOST_TIMES || times > MOST_TIMES) {
            throw new IllegalArgumentException("times is not -50 to 50");
        }
    }

    private void requireWayTo(Ring wanted) {
        if (!ring.canBecome(wanted)) {
            throw new IllegalStateException("the target cannot be reached");
        }
    }

    private Ring keptRing(int target) {
        if (target < 0 || target >= keptCount || target >= kept.length) {
            throw new IndexOutOfBoundsException("there is no such target");
        }
        Ring wanted = kept[target];
        if (wanted == null) {
            throw new IndexOutOfBoundsException("there is no such target");
        }
        return wanted;
    }

    private int fewestTo(Ring wanted) {
        if (!ring.canBecome(wanted)) {
            return -1;
        }
        way.find(ring, wanted);
        return way.fewest();
    }

    /** Leaves the ring at rest in trial, for whoever asks on. */
    private int tryToRest() {
        trial.copyFrom(ring);
        int steps = trial.settleBy(MOST_STEPS_TO_REST);
        return trial.firstSteep() < 0 ? steps : -1;
    }

    private int spanAfter(int place, int times) {
        trial.copyFrom(ring);
        trial.tipBy(place, times);
        return trial.span();
    }

    private int firstPlaceFor(int number, Ring wanted) {
        for (int place = 0; place < ring.size(); place++) {
            trial.copyFrom(ring);
            trial.write(place, number);
            if (trial.canBecome(wanted)) {
                return place;
            }
        }
        return -1;
    }

    /** The numbers round a ring. Only here is a place looked up in the row, behind a test of the index. */
    private static final class Ring {
        // As long as the longest ring, so that laying another one makes nothing.
        private final int[] numbers = new int[MOST_PLACES];
        private int size = FIRST_PLACES;

        int size() {
            return size;
        }

        int at(int place) {
            return place >= 0 && place < numbers.length ? numbers[place] : 0;
        }

        void write(int place, int number) {
            if (place >= 0 && place < numbers.length) {
                numbers[place] = number;
            }
        }

        void clear(int newSize) {
            size = newSize;
            for (int place = 0; place < numbers.length; place++) {
                write(place, 0);
            }
        }

        void copyFrom(Ring other) {
            size = other.size;
            for (int place = 0; place < numbers.length; place++) {
                write(place, other.at(place));
            }
        }

        void rotate() {
            int last = at(size - 1);
            for (int place = size - 1; place > 0; place--) {
                write(place, at(place - 1));
            }
            write(0, last);
        }

        void tipBy(int place, int times) {
            add(place, -2 * times);
            add(onRing(place + 1), times);
            add(onRing(place - 1), times);
        }

        int settleBy(int steps) {
            int done = 0;
            while (done < steps) {
                int place = firstSteep();
                if (place < 0) {
                    return done;
                }
                tipBy(place, 1);
                done++;
            }
            return done;
        }

        int total() {
            int total = 0;
            for (int place = 0; place < size; place++) {
                total += at(place);
            }
            return total;
        }

        int momentLeft() {
            int moments = 0;
            for (int place = 0; place < size; place++) {
                moments += at(place) * place;
            }
            return size > 0 ? Math.floorMod(moments, size) : 0;
        }

        int firstGreatest() {
            int greatest = 0;
            for (int place = 1; place < size; place++) {
                if (at(place) > at(greatest)) {
                    greatest = place;
                }
            }
            return greatest;
        }

        int span() {
            int smallest = at(0);
            for (int place = 1; place < size; place++) {
                smallest = Math.min(smallest, at(place));
            }
            return at(firstGreatest()) - smallest;
        }

        boolean steepAt(int place) {
            return 2 * at(place) - at(onRing(place + 1)) - at(onRing(place - 1)) > STEEP_ABOVE;
        }

        int firstSteep() {
            for (int place = 0; place < size; place++) {
                if (steepAt(place)) {
                    return place;
                }
            }
            return -1;
        }

        int tiltOn(int axis) {
            int tilt = 0;
            for (int distance = 1; distance <= (size - 1) / 2; distance++) {
                tilt += (at(onRing(axis + distance)) - at(onRing(axis - distance))) * distance;
            }
            return tilt;
        }

        int differencesFrom(Ring other) {
            int count = 0;
            for (int place = 0; place < size; place++) {
                if (at(place) != other.at(place)) {
                    count++;
                }
            }
            return count;
        }

        /** Tipping changes neither the sum nor the moment, and where both are alike, Way finds whole tips. */
        boolean canBecome(Ring other) {
            return total() == other.total() && momentLeft() == other.momentLeft();
        }

        private void add(int place, int more) {
            write(place, at(place) + more);
        }

        /** Enough for places less than once round away: none is asked for further off. */
        private int onRing(int place) {
            if (place < 0) {
                return place + size;
            }
            return place < size ? place : place - size;
        }
    }

    /** The tips from one ring to another that it can become. */
    private static final class Way {
        private final int[] tips = new int[MOST_PLACES];
        private int size = 0;

        void find(Ring from, Ring to) {
            size = from.size();
            int climb = firstClimb(from, to);
            int height = 0;
            for (int place = 0; place < size && place < tips.length; place++) {
                tips[place] = height;
                // A place gains what its two neighbours' tips are more than its own: so much the climb grows on it.
                climb += place == 0 ? 0 : to.at(place) - from.at(place);
                height += climb;
            }
        }

        int tipsAt(int place) {
            return place >= 0 && place < tips.length ? tips[place] : 0;
        }

        /** Every place may be tipped once less without a change: the best level to take off is one of the tips. */
        int fewest() {
            int fewest = awayFrom(tipsAt(0));
            for (int place = 1; place < size; place++) {
                fewest = Math.min(fewest, awayFrom(tipsAt(place)));
            }
            return fewest;
        }

        /** From place 0 to 1, so chosen that all climbs, once round, lead back to the 0 tips of place 0. */
        private int firstClimb(Ring from, Ring to) {
            int others = 0;
            for (int place = 1; place < size; place++) {
                others += (to.at(place) - from.at(place)) * (size - place);
            }
            return size > 0 ? -others / size : 0;
        }

        private int awayFrom(int level) {
            int away = 0;
            for (int place = 0; place < size; place++) {
                away += Math.abs(tipsAt(place) - level);
            }
            return away;
        }
    }
}
