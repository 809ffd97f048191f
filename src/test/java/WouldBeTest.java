/** Promises 30 to 36: what would be. */
public final class WouldBeTest {
    private static final Due due = new Due();

    public static void main(String[] args) {
        stepsToRest();
        atMost300Steps();
        spreadAtRest();
        spreadWith();
        bestPlace();
        placeFor();
        meanNumber();
        digest();
        due.end();
    }

    private static void stepsToRest() {
        RingSeesaw x = Rings.of(20, 0, 0, 0, 0);
        due.asks(x, "30: stepsToRest()", 13, () -> x.stepsToRest());
        x.settle(4);
        due.is("30: stepsToRest() behind 4", 9, x.stepsToRest());
        x.settle(9);
        due.is("30: stepsToRest() at rest", 0, x.stepsToRest());
        due.is("30: no place is steep", -1, x.nextToTip());
    }

    /** Two rings of 3 that come to rest by just 300 and by 301 steps; settle() on another object counts them. */
    private static void atMost300Steps() {
        int at300 = 0;
        int beyond = 0;
        for (int number = 860; number <= 999; number++) {
            RingSeesaw x = Rings.of(number, 0, 0);
            int steps = x.settle(200) + x.settle(200);
            int want = steps <= 300 ? steps : -1;
            RingSeesaw y = Rings.of(number, 0, 0);
            due.is("30: stepsToRest() of " + number, want, y.stepsToRest());
            due.is("31: spreadAtRest() of " + number, want < 0 ? -1 : x.spread(), y.spreadAtRest());
            at300 += steps == 300 ? 1 : 0;
            beyond += steps == 301 ? 1 : 0;
        }
        due.is("30: 300 and 301 steps are among these", true, at300 > 0 && beyond > 0);
    }

    private static void spreadAtRest() {
        RingSeesaw x = Rings.of(20, 0, 0, 0, 0);
        due.asks(x, "31: spreadAtRest()", 4, () -> x.spreadAtRest());
        x.settle(200);
        due.is("31: spreadAtRest() at rest", x.spread(), x.spreadAtRest());
        RingSeesaw high = Rings.of(999, 0, 0, 0, 0, 0, 0, 0, 0, 0, 0, 0);
        due.asks(high, "30: stepsToRest() of too many", -1, () -> high.stepsToRest());
        due.asks(high, "31: spreadAtRest() of too many", -1, () -> high.spreadAtRest());
    }

    private static void spreadWith() {
        RingSeesaw x = Rings.of(8, 0, 0, 0);
        due.asks(x, "32: spreadWith(0, 2)", 4, () -> x.spreadWith(0, 2));
        due.asks(x, "32: spreadWith(0, 0)", 8, () -> x.spreadWith(0, 0));
        due.asks(x, "32: spreadWith(3, -1)", 8, () -> x.spreadWith(3, -1));
        due.asks(x, "32: spreadWith(1, -3)", 9, () -> x.spreadWith(1, -3));
        due.is("32: spreadWith(0, 50)", 142, x.spreadWith(0, 50));
        due.is("32: spreadWith(0, -50)", 158, x.spreadWith(0, -50));
        due.refuses(x, "32: spreadWith(4, 1)", Rings.NO_INDEX, () -> x.spreadWith(4, 1));
        due.refuses(x, "32: spreadWith(-1, 1)", Rings.NO_INDEX, () -> x.spreadWith(-1, 1));
        due.refuses(x, "32: spreadWith(0, 51)", Rings.NO_ARGUMENT, () -> x.spreadWith(0, 51));
        due.refuses(x, "32: spreadWith(0, -51)", Rings.NO_ARGUMENT, () -> x.spreadWith(0, -51));
        due.refuses(x, "32: spreadWith(4, 51)", Rings.NO_INDEX, () -> x.spreadWith(4, 51));
    }

    private static void bestPlace() {
        RingSeesaw x = Rings.of(0, 0, 9, 0);
        due.asks(x, "33: bestPlace()", 2, () -> x.bestPlace());
        RingSeesaw back = Rings.of(0, 0, -9, 0, 0);
        due.asks(back, "33: bestPlace() by tipping back", 2, () -> back.bestPlace());
        due.is("33: bestPlace() of two as good", 0, Rings.of(9, 0, 0, -9, 0, 0).bestPlace());
        due.is("33: bestPlace() of two as good, the first by tipping back", 0,
                Rings.of(-9, 0, 0, 9, 0, 0).bestPlace());
        due.is("33: bestPlace() of a good and a better one", 1, Rings.of(-9, 9, -9, 0, 0, 0).bestPlace());
        due.is("33: bestPlace() at the last", 4, Rings.of(0, 0, 0, 0, 9).bestPlace());
        due.is("33: bestPlace() between two low ones", 5, Rings.of(-9, 0, 0, 0, -9, 0).bestPlace());
        due.is("33: bestPlace() where the low one between is in the way", -1,
                Rings.of(-8, -9, 0, 0, 0, -9).bestPlace());
        due.is("33: bestPlace() of likes", -1, new RingSeesaw().bestPlace());
        due.is("33: bestPlace() where it stays as it is", -1, Rings.of(9, 0, 0, 9, 0, 0).bestPlace());
        due.is("33: bestPlace() where it only grows", -1, Rings.of(1, 0, 0, 0).bestPlace());
    }

    private static void placeFor() {
        RingSeesaw x = Rings.of(5, 6, 7, 8);
        due.asks(x, "34: placeFor(0) without targets", -1, () -> x.placeFor(0));
        x.keep();
        due.asks(x, "34: placeFor(7) as it is", 2, () -> x.placeFor(7));
        due.asks(x, "34: placeFor(1)", -1, () -> x.placeFor(1));
        x.put(3, 100);
        due.asks(x, "34: placeFor(8)", 3, () -> x.placeFor(8));
        x.keep();
        due.asks(x, "34: placeFor(8) is for the target 0", 3, () -> x.placeFor(8));
        RingSeesaw several = Rings.of(3, 3, 3);
        several.keep();
        due.is("34: placeFor(3) of several", 0, several.placeFor(3));
        RingSeesaw moved = Rings.of(0, 0, 0, 0);
        moved.keep();
        Rings.write(moved, 1, 1, 0, 0);
        due.is("34: placeFor(-1) with another moment", -1, moved.placeFor(-1));
        Rings.write(moved, 4, 4, 0, 0);
        due.is("34: placeFor(-4) where the moments meet", 0, moved.placeFor(-4));
        due.is("34: placeFor(999)", -1, x.placeFor(999));
        due.is("34: placeFor(-999)", -1, x.placeFor(-999));
        due.refuses(x, "34: placeFor(1000)", Rings.NO_ARGUMENT, () -> x.placeFor(1000));
        due.refuses(x, "34: placeFor(-1000)", Rings.NO_ARGUMENT, () -> x.placeFor(-1000));
        RingSeesaw none = new RingSeesaw();
        due.refuses(none, "34: placeFor(1000) without targets", Rings.NO_ARGUMENT, () -> none.placeFor(1000));
    }

    private static void meanNumber() {
        RingSeesaw x = Rings.of(1, 2, 2);
        due.asks(x, "35: meanNumber()", 5.0 / 3.0, () -> x.meanNumber());
        due.is("35: meanNumber() less than 0", -0.25, Rings.of(0, 0, -1, 0).meanNumber());
        due.is("35: meanNumber() of a new one", 0.0, new RingSeesaw().meanNumber());
    }

    private static void digest() {
        RingSeesaw x = new RingSeesaw();
        due.asks(x, "36: digest() of a new one", digestOf(x), () -> x.digest());
        RingSeesaw y = Rings.of(9, -4, 0, 3, 30);
        y.keep();
        y.tip(2, 6);
        y.keep();
        y.put(1, 0);
        y.keep();
        y.tip(0, -9);
        due.asks(y, "36: digest()", digestOf(y), () -> y.digest());
        RingSeesaw z = Rings.of(2, 0, 5);
        z.keep();
        z.put(1, 3);
        due.is("36: placeFor(0) that is one", 1, z.placeFor(0));
        due.asks(z, "36: digest() of it", digestOf(z), () -> z.digest());
        due.is("36: digest() does not stand still", false, x.digest() == y.digest());
    }

    private static long digestOf(RingSeesaw x) {
        long[] heads = {x.places(), x.targets(), x.tips(), x.sum(), x.moment(), x.spread(), x.highest(),
            x.steepPlaces(), x.nextToTip(), x.levelAxes(), x.bestAxis(), x.reachable(), x.nearestTarget(),
            x.stepsToRest(), x.spreadAtRest(), x.bestPlace(), x.placeFor(0)};
        long d = 2333;
        for (long head : heads) {
            d = d * 31 + head;
        }
        for (int place = 0; place < x.places(); place++) {
            d = d * 31 + x.numberAt(place);
            d = d * 31 + (x.isSteep(place) ? 1 : 0);
            d = d * 31 + x.tilt(place);
        }
        for (int target = 0; target < x.targets(); target++) {
            d = d * 31 + x.differences(target);
            d = d * 31 + (x.canReach(target) ? 1 : 0);
            d = d * 31 + x.fewestTips(target);
        }
        return d;
    }
}
