import java.math.BigInteger;
import java.util.ArrayList;
import java.util.List;

/** Promises 30 to 36, what would be: a test for each sentence that names a boundary. */
public final class WouldBeEdgesTest {
    private static final Due due = new Due();

    public static void main(String[] args) {
        stepsToRest();
        spreadAtRest();
        spreadWithTimes();
        spreadWithReturns();
        spreadWithThrowsIndex();
        spreadWithThrowsArgument();
        bestPlace();
        bestPlaceNone();
        placeForReturns();
        placeForNone();
        placeForThrows();
        meanNumber();
        digest();
        digestWraps();
        digestCounts();
        due.end();
    }

    private static void stepsToRest() {
        due.sentence("30", "Returns by how many steps of settle() no place is steep any more: at most 300; "
                + "-1 if not by then (nothing is changed).");
        due.is("stepsToRest() at first", 0, new RingSeesaw().stepsToRest());
        due.is("stepsToRest() of one that is not steep", 0, Rings.of(0, 0, 0, 1).stepsToRest());
        due.is("stepsToRest() of the place 0", 1, Rings.of(2, 0, 0, 0).stepsToRest());
        due.is("stepsToRest() of the last", 1, Rings.of(0, 0, 0, 2).stepsToRest());
        RingSeesaw x = Rings.of(901, 0, 0);
        due.asks(x, "stepsToRest() of 300", 300, () -> x.stepsToRest());
        RingSeesaw y = Rings.of(902, 0, 0);
        due.asks(y, "stepsToRest() of 301", -1, () -> y.stepsToRest());
        y.settle(1);
        due.is("stepsToRest() of 301, behind one", 300, y.stepsToRest());
        RingSeesaw twelve = Rings.with(12, 11, 138);
        due.asks(twelve, "stepsToRest() of 300 from the last of 12", 300, () -> twelve.stepsToRest());
        RingSeesaw high = Rings.with(12, 11, 999);
        due.asks(high, "stepsToRest() of many more", -1, () -> high.stepsToRest());
        due.is("settle(200) of 300", 200, x.settle(200));
        due.is("settle(99) of 300", 99, x.settle(99));
        due.is("stepsToRest() behind 299", 1, x.stepsToRest());
        due.is("settle(200) behind 299", 1, x.settle(200));
        due.is("stepsToRest() behind 300", 0, x.stepsToRest());
    }

    private static void spreadAtRest() {
        due.sentence("31", "Returns the spread behind these steps; -1 if stepsToRest() is (nothing is changed).");
        due.is("spreadAtRest() at first", 0, new RingSeesaw().spreadAtRest());
        due.is("spreadAtRest() of one that is not steep", 1, Rings.of(0, 0, 0, 1).spreadAtRest());
        due.is("spreadAtRest() of one step", 1, Rings.of(0, 0, 0, 2).spreadAtRest());
        RingSeesaw x = Rings.of(901, 0, 0);
        due.asks(x, "spreadAtRest() of 300 steps", 1, () -> x.spreadAtRest());
        RingSeesaw y = Rings.of(902, 0, 0);
        due.asks(y, "spreadAtRest() of 301 steps", -1, () -> y.spreadAtRest());
        RingSeesaw twelve = Rings.with(12, 11, 138);
        due.asks(twelve, "spreadAtRest() of 300 steps from the last of 12", 23, () -> twelve.spreadAtRest());
        RingSeesaw high = Rings.with(12, 11, 999);
        due.asks(high, "spreadAtRest() of many more steps", -1, () -> high.spreadAtRest());
    }

    private static void spreadWithTimes() {
        due.sentence("32", "times: how often; less than 0: back");
        RingSeesaw x = Rings.of(8, 0, 0, 0);
        due.asks(x, "spreadWith(0, 0)", 8, () -> x.spreadWith(0, 0));
        due.asks(x, "spreadWith(0, 1)", 6, () -> x.spreadWith(0, 1));
        due.asks(x, "spreadWith(0, -1)", 10 + 1, () -> x.spreadWith(0, -1));
        due.asks(x, "spreadWith(0, 50)", 50 + 92, () -> x.spreadWith(0, 50));
        due.asks(x, "spreadWith(0, -50)", 108 + 50, () -> x.spreadWith(0, -50));
        due.asks(x, "spreadWith(3, 50) beside it", 58 + 100, () -> x.spreadWith(3, 50));
        due.asks(x, "spreadWith(3, -50) beside it", 100 + 50, () -> x.spreadWith(3, -50));
    }

    private static void spreadWithReturns() {
        due.sentence("32", "Returns the spread, if it was tipped so often (nothing is changed).");
        for (int places = 3; places <= 12; places++) {
            RingSeesaw x = Rings.with(places, 0, 0);
            for (int place : new int[] {0, places - 1}) {
                for (int times : new int[] {-50, -1, 0, 1, 50}) {
                    RingSeesaw y = Rings.with(places, 0, 0);
                    due.asks(y, "spreadWith(" + place + ", " + times + ") of " + places, 3 * Math.abs(times),
                            () -> y.spreadWith(place, times));
                }
            }
            x.put(0, 999);
            x.put(places - 1, -999);
            due.asks(x, "spreadWith(0, -50) of 999 beside -999, of " + places, 2148, () -> x.spreadWith(0, -50));
            due.asks(x, "spreadWith(last, 50) of -999 beside 999, of " + places, 2148,
                    () -> x.spreadWith(x.places() - 1, 50));
            due.asks(x, "spreadWith(0, 0) of 999 beside -999, of " + places, 1998, () -> x.spreadWith(0, 0));
        }
    }

    private static void spreadWithThrowsIndex() {
        due.sentence("32", "Throws IndexOutOfBoundsException if there is no such place");
        due.refusesNoPlace("spreadWith(.., 1)", (x, place) -> x.spreadWith(place, 1));
        due.refusesNoPlace("spreadWith(.., 0)", (x, place) -> x.spreadWith(place, 0));
    }

    private static void spreadWithThrowsArgument() {
        due.sentence("32", "Throws IllegalArgumentException if times is not -50 to 50");
        for (int wrong : new int[] {51, -51, 52, 100, Integer.MIN_VALUE, Integer.MAX_VALUE}) {
            due.refusesOnAll("spreadWith(0, " + wrong + ")", Rings.NO_ARGUMENT, x -> x.spreadWith(0, wrong));
            due.refusesOnAll("spreadWith(last, " + wrong + ")", Rings.NO_ARGUMENT,
                    x -> x.spreadWith(x.places() - 1, wrong));
        }
        due.is("spreadWith(5, 50)", 150, new RingSeesaw().spreadWith(5, 50));
        due.is("spreadWith(5, -50)", 150, new RingSeesaw().spreadWith(5, -50));
    }

    private static void bestPlace() {
        due.sentence("33", "Returns the place whose tipping once, or back, makes the smallest spread, "
                + "of several the first");
        for (int places = 3; places <= 12; places++) {
            int last = places - 1;
            for (int place = 0; place < places; place++) {
                RingSeesaw x = Rings.with(places, place, 2);
                due.asks(x, "bestPlace() by tipping, of " + places, place, () -> x.bestPlace());
                RingSeesaw y = Rings.with(places, place, -2);
                due.asks(y, "bestPlace() by tipping back, of " + places, place, () -> y.bestPlace());
            }
            RingSeesaw ends = Rings.with(places, 0, 9);
            ends.put(last, -9);
            due.asks(ends, "bestPlace() of both ends, the first tipped, of " + places, 0, () -> ends.bestPlace());
            ends.put(0, -9);
            ends.put(last, 9);
            due.asks(ends, "bestPlace() of both ends, the first tipped back, of " + places, 0,
                    () -> ends.bestPlace());
        }
    }

    private static void bestPlaceNone() {
        due.sentence("33", "-1 if by none it is less than now (nothing is changed).");
        for (int places = 3; places <= 12; places++) {
            due.is("bestPlace() of likes, " + places, -1, Rings.level(places, 999).bestPlace());
            RingSeesaw grows = Rings.with(places, places - 1, 1);
            due.asks(grows, "bestPlace() where it only grows, of " + places, -1, () -> grows.bestPlace());
        }
        RingSeesaw same = Rings.of(9, 0, 0, 9, 0, 0);
        due.is("spreadWith(0, 1) that is the same", 9, same.spreadWith(0, 1));
        due.asks(same, "bestPlace() where it stays the same", -1, () -> same.bestPlace());
    }

    private static void placeForReturns() {
        due.sentence("34", "Returns the place at which this number would have to be put, for the target 0 to be "
                + "reached then, of several the first");
        for (int places = 3; places <= 12; places++) {
            for (int place = 0; place < places; place++) {
                RingSeesaw x = Rings.with(places, place, 1);
                x.keep();
                x.put(place, 0);
                due.asks(x, "placeFor(1) of " + places, place, () -> x.placeFor(1));
                x.put(place, 1);
                due.asks(x, "placeFor(1) as it is, of " + places, place, () -> x.placeFor(1));
            }
            RingSeesaw likes = Rings.level(places, 7);
            likes.keep();
            due.asks(likes, "placeFor(7) of likes, " + places, 0, () -> likes.placeFor(7));
        }
        RingSeesaw most = Rings.with(11, 10, 999);
        most.keep();
        most.put(10, 0);
        due.asks(most, "placeFor(999)", 10, () -> most.placeFor(999));
        RingSeesaw least = Rings.with(4, 3, -999);
        least.keep();
        least.put(3, 0);
        due.asks(least, "placeFor(-999)", 3, () -> least.placeFor(-999));
        // 999 at any place of 3 has the moment 0.
        RingSeesaw several = Rings.with(3, 2, 999);
        several.keep();
        several.put(2, 0);
        due.asks(several, "placeFor(999) at any of 3", 0, () -> several.placeFor(999));
        RingSeesaw six = Rings.withTargets(6);
        Rings.write(six, 1, 1, 1, 50);
        due.asks(six, "placeFor(1) for the target 0 of six", 3, () -> six.placeFor(1));
        due.asks(six, "placeFor(21) for the target 5 alone", -1, () -> six.placeFor(21));
    }

    private static void placeForNone() {
        due.sentence("34", "-1 without targets, or if there is no such place (nothing is changed).");
        for (int number : new int[] {-999, 0, 999}) {
            RingSeesaw x = new RingSeesaw();
            due.asks(x, "placeFor(" + number + ") without targets", -1, () -> x.placeFor(number));
        }
        for (int places = 3; places <= 12; places++) {
            RingSeesaw x = Rings.level(places, 7);
            x.keep();
            due.asks(x, "placeFor(8), the sum 1 too many, of " + places, -1, () -> x.placeFor(8));
            due.asks(x, "placeFor(6), the sum 1 too few, of " + places, -1, () -> x.placeFor(6));
            due.asks(x, "placeFor(999) of " + places, -1, () -> x.placeFor(999));
            due.asks(x, "placeFor(-999) of " + places, -1, () -> x.placeFor(-999));
            RingSeesaw moment = Rings.with(places, 0, 0);
            moment.keep();
            moment.put(0, 1);
            moment.put(1, -1);
            due.asks(moment, "placeFor(0), the sum nowhere, of " + places, -1, () -> moment.placeFor(0));
            moment.put(0, 0);
            due.asks(moment, "placeFor(1) with the sum alone, of " + places, -1,
                    () -> moment.placeFor(1));
        }
    }

    private static void placeForThrows() {
        due.sentence("34", "Throws IllegalArgumentException if number is not -999 to 999");
        for (int wrong : new int[] {1000, -1000, 1001, Integer.MIN_VALUE, Integer.MAX_VALUE}) {
            due.refusesOnAll("placeFor(" + wrong + ")", Rings.NO_ARGUMENT, x -> x.placeFor(wrong));
            RingSeesaw none = new RingSeesaw();
            due.refuses(none, "placeFor(" + wrong + ") without targets", Rings.NO_ARGUMENT,
                    () -> none.placeFor(wrong));
        }
    }

    private static void meanNumber() {
        due.sentence("35", "Returns the mean number of places.");
        due.is("meanNumber() at first", 0.0, new RingSeesaw().meanNumber());
        for (int places = 3; places <= 12; places++) {
            due.is("meanNumber() of the most, " + places, 999.0, Rings.level(places, 999).meanNumber());
            due.is("meanNumber() of the least, " + places, -999.0, Rings.level(places, -999).meanNumber());
            RingSeesaw x = Rings.with(places, places - 1, -1);
            due.asks(x, "meanNumber() of -1 at the last of " + places, -1.0 / places, () -> x.meanNumber());
            due.is("meanNumber() of 1 at the place 0 of " + places, 1.0 / places,
                    Rings.with(places, 0, 1).meanNumber());
        }
        RingSeesaw x = Rings.of(999, -999, 0);
        due.asks(x, "meanNumber() of a sum of 0", 0.0, () -> x.meanNumber());
    }

    private static void digest() {
        due.sentence("36", "A number d starts with 2333; for each of the following numbers x, d becomes d * 31 + x: "
                + "places(), .., placeFor(0); then for each place numberAt(), isSteep(), tilt(); "
                + "for each target differences(), canReach(), fewestTips().");
        long[] atFirst = new long[17 + 3 * 6];
        atFirst[0] = 6;
        atFirst[8] = -1;
        atFirst[9] = 6;
        atFirst[12] = -1;
        atFirst[15] = -1;
        atFirst[16] = -1;
        RingSeesaw x = new RingSeesaw();
        due.asks(x, "digest() at first, without targets", mixed(atFirst), () -> x.digest());
        RingSeesaw three = Rings.of(902, 0, 0);
        due.asks(three, "digest() of the fewest places, without rest", mixed(answers(three)), () -> three.digest());
        RingSeesaw twelve = Rings.full(12);
        due.asks(twelve, "digest() of the most places", mixed(answers(twelve)), () -> twelve.digest());
        RingSeesaw six = Rings.withTargets(6);
        due.asks(six, "digest() of six targets", mixed(answers(six)), () -> six.digest());
        six.lay(4);
        due.asks(six, "digest() where the targets are gone", mixed(answers(six)), () -> six.digest());
    }

    private static void digestWraps() {
        due.sentence("36", "which wraps around as a 64-bit integer");
        for (int number : new int[] {-999, -1, 0, 1, 999}) {
            RingSeesaw x = Rings.level(12, number);
            due.asks(x, "digest() of all " + number, mixed(answers(x)), () -> x.digest());
        }
    }

    private static void digestCounts() {
        due.sentence("36", "(whether something is so counts 1 or 0)");
        RingSeesaw steep = Rings.of(2, 0, 0);
        steep.keep();
        due.asks(steep, "digest() with a steep place and a target that can be reached",
                mixed(3, 1, 0, 2, 0, 2, 0, 1, 0, 1, 0, 1, 0, 1, 1, 0, 1,
                        2, 1, 0, 0, 0, -2, 0, 0, 2, 0, 1, 0), () -> steep.digest());
        steep.put(0, 1);
        due.asks(steep, "digest() with neither",
                mixed(3, 1, 0, 1, 0, 1, 0, 0, -1, 1, 0, 0, -1, 0, 1, -1, -1,
                        1, 0, 0, 0, 0, -1, 0, 0, 1, 1, 0, -1), () -> steep.digest());
    }

    private static long[] answers(RingSeesaw x) {
        List<Integer> all = new ArrayList<>(List.of(x.places(), x.targets(), x.tips(), x.sum(), x.moment(), x.spread(),
                x.highest(), x.steepPlaces(), x.nextToTip()));
        all.addAll(List.of(x.levelAxes(), x.bestAxis(), x.reachable(), x.nearestTarget(), x.stepsToRest(),
                x.spreadAtRest(), x.bestPlace(), x.placeFor(0)));
        for (int place = 0; place < x.places(); place++) {
            all.addAll(List.of(x.numberAt(place), x.isSteep(place) ? 1 : 0, x.tilt(place)));
        }
        for (int target = 0; target < x.targets(); target++) {
            all.addAll(List.of(x.differences(target), x.canReach(target) ? 1 : 0, x.fewestTips(target)));
        }
        return all.stream().mapToLong(Integer::longValue).toArray();
    }

    /** In numbers without bound, cut to 64 bits only at the end. */
    private static long mixed(long... numbers) {
        BigInteger d = BigInteger.valueOf(2333);
        for (long number : numbers) {
            d = d.multiply(BigInteger.valueOf(31)).add(BigInteger.valueOf(number));
        }
        return d.longValue();
    }
}
