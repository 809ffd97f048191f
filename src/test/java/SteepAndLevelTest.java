/** Promises 17 to 22: steep and level. */
public final class SteepAndLevelTest {
    private static final Due due = new Due();

    public static void main(String[] args) {
        isSteep();
        steepPlaces();
        nextToTip();
        tilt();
        levelAxes();
        bestAxis();
        due.end();
    }

    private static void isSteep() {
        RingSeesaw x = Rings.of(0, 2, 0, 0, 0, 1);
        due.asks(x, "17: isSteep(1) of 4", true, () -> x.isSteep(1));
        x.put(2, 1);
        due.asks(x, "17: isSteep(1) of 3", false, () -> x.isSteep(1));
        due.is("17: isSteep(0) of less", false, x.isSteep(0));
        RingSeesaw ends = Rings.of(5, 0, 0, 0, 7);
        due.is("17: isSteep(0) beside the last", false, ends.isSteep(0));
        due.is("17: isSteep(4) beside the first", true, ends.isSteep(4));
        ends.put(0, 6);
        due.is("17: isSteep(0) beside the last, then", true, ends.isSteep(0));
        due.refuses(x, "17: isSteep(6)", Rings.NO_INDEX, () -> x.isSteep(6));
        due.refuses(x, "17: isSteep(-1)", Rings.NO_INDEX, () -> x.isSteep(-1));
    }

    private static void steepPlaces() {
        RingSeesaw x = Rings.of(9, 0, 9, 0, 0, 9, 0);
        due.asks(x, "18: steepPlaces()", 3, () -> x.steepPlaces());
        due.is("18: steepPlaces() of a new one", 0, new RingSeesaw().steepPlaces());
        due.is("18: steepPlaces() at the last", 1, Rings.of(0, 0, 0, 2).steepPlaces());
        due.is("18: steepPlaces() round the place 0", 3, Rings.of(0, -9, 0, 0, -9).steepPlaces());
        due.is("18: steepPlaces() round the last", 3, Rings.of(-9, 0, 0, -9, 0).steepPlaces());
    }

    private static void nextToTip() {
        RingSeesaw x = Rings.of(0, 0, 9, 0, 9);
        due.asks(x, "19: nextToTip()", 2, () -> x.nextToTip());
        due.is("19: nextToTip() at 0", 0, Rings.of(2, 0, 2, 0).nextToTip());
        due.is("19: nextToTip() at the last", 3, Rings.of(0, 0, 0, 2).nextToTip());
        due.is("19: nextToTip() beside a low one", 1, Rings.of(-9, 0, 0, 0, 0).nextToTip());
        due.is("19: nextToTip() without any", -1, Rings.of(1, 0, 0, 0).nextToTip());
        due.is("19: nextToTip() of likes", -1, Rings.of(-9, -9, -9, -9).nextToTip());
    }

    private static void tilt() {
        RingSeesaw x = Rings.of(1, 10, 100, -100, 7);
        due.asks(x, "20: tilt(0) of 5", (10 - 7) + (100 + 100) * 2, () -> x.tilt(0));
        due.is("20: tilt(1) of 5", (100 - 1) + (-100 - 7) * 2, x.tilt(1));
        due.is("20: tilt(4) of 5", (1 + 100) + (10 - 100) * 2, x.tilt(4));
        RingSeesaw even = Rings.of(1, 2, 4, 8, 16, 32);
        due.is("20: tilt(0) of 6 leaves the far place out", (2 - 32) + (4 - 16) * 2, even.tilt(0));
        due.is("20: tilt(5) of 6", (1 - 16) + (2 - 8) * 2, even.tilt(5));
        due.is("20: tilt(1) of 3", 30 - 10, Rings.of(10, 20, 30).tilt(1));
        due.is("20: tilt(2) of 4", 40 - 20, Rings.of(10, 20, 30, 40).tilt(2));
        due.refuses(x, "20: tilt(5)", Rings.NO_INDEX, () -> x.tilt(5));
        due.refuses(x, "20: tilt(-1)", Rings.NO_INDEX, () -> x.tilt(-1));
    }

    private static void levelAxes() {
        RingSeesaw x = Rings.of(1, 2, 9, 2);
        due.asks(x, "21: levelAxes()", 2, () -> x.levelAxes());
        due.is("21: levelAxes() of likes", 5, Rings.of(3, 3, 3, 3, 3).levelAxes());
        due.is("21: levelAxes() of none", 0, Rings.of(1, 2, 4).levelAxes());
    }

    private static void bestAxis() {
        RingSeesaw x = Rings.of(5, 1, 2, 9);
        due.asks(x, "22: bestAxis() of -8, -3, 8, 3", 1, () -> x.bestAxis());
        due.is("22: bestAxis() of 3, -8, -3, 8", 0, Rings.of(9, 5, 1, 2).bestAxis());
        due.is("22: bestAxis() of 3 sides", 2, Rings.of(0, 1, 5).bestAxis());
        due.is("22: bestAxis() of likes", 0, new RingSeesaw().bestAxis());
        due.is("22: bestAxis() of two level ones", 1, Rings.of(2, 1, 2, 9).bestAxis());
    }
}
