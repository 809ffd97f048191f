/** Promises 17 to 22, steep and level: a test for each sentence that names a boundary. */
public final class SteepAndLevelEdgesTest {
    private static final Due due = new Due();

    public static void main(String[] args) {
        isSteepReturns();
        isSteepThrows();
        steepPlaces();
        nextToTip();
        tiltReturns();
        tiltThrows();
        levelAxes();
        bestAxis();
        due.end();
    }

    private static void isSteepReturns() {
        due.sentence("17", "Returns whether it is steep.");
        for (int places = 3; places <= 12; places++) {
            for (int place = 0; place < places; place++) {
                int asked = place;
                String what = "isSteep(" + place + ") of " + places;
                RingSeesaw x = Rings.with(places, place, 2);
                due.asks(x, what + " with 4", true, () -> x.isSteep(asked));
                x.put((place + 1) % places, 1);
                due.asks(x, what + " with 3, the next one 1", false, () -> x.isSteep(asked));
                x.put((place + 1) % places, 0);
                x.put((place + places - 1) % places, 1);
                due.asks(x, what + " with 3, the one before 1", false, () -> x.isSteep(asked));
            }
        }
        RingSeesaw beyond = Rings.of(999, -999, 0);
        beyond.tip(0, -50);
        due.is("isSteep(0) beyond 999", true, beyond.isSteep(0));
        due.is("isSteep(1) beyond -999", false, beyond.isSteep(1));
    }

    private static void isSteepThrows() {
        due.sentence("17", "Throws IndexOutOfBoundsException if there is no such place");
        due.refusesNoPlace("isSteep(..)", (x, place) -> x.isSteep(place));
    }

    private static void steepPlaces() {
        due.sentence("18", "Returns how many places are steep.");
        due.is("steepPlaces() at first", 0, new RingSeesaw().steepPlaces());
        for (int places = 3; places <= 12; places++) {
            due.is("steepPlaces() of likes, " + places, 0, Rings.level(places, 999).steepPlaces());
            // Low numbers all round: beyond the last place nothing stands that could be steep beside them.
            due.is("steepPlaces() of likes below 0, " + places, 0, Rings.level(places, -999).steepPlaces());
            due.is("steepPlaces() of the place 0 of " + places, 1, Rings.with(places, 0, 2).steepPlaces());
            due.is("steepPlaces() of the last of " + places, 1, Rings.with(places, places - 1, 2).steepPlaces());
            due.is("steepPlaces() of none of " + places, 0, Rings.with(places, places - 1, 1).steepPlaces());
            // Each place but one stands 4 above its neighbours: more cannot, as all these differences add up to 0.
            int[] most = new int[places];
            for (int place = 0; place < places; place++) {
                most[place] = 2 * place * (places - place);
            }
            RingSeesaw x = Rings.of(most);
            due.asks(x, "steepPlaces() of the most of " + places, places - 1, () -> x.steepPlaces());
            x.turn();
            due.is("steepPlaces() of the most of " + places + " turned", places - 1, x.steepPlaces());
        }
    }

    private static void nextToTip() {
        due.sentence("19", "Returns the first steep place, from 0 on; -1 without any.");
        due.is("nextToTip() at first", -1, new RingSeesaw().nextToTip());
        for (int places = 3; places <= 12; places++) {
            RingSeesaw x = Rings.with(places, places - 1, 1);
            due.asks(x, "nextToTip() without any of " + places, -1, () -> x.nextToTip());
            due.is("nextToTip() of likes, " + places, -1, Rings.level(places, 999).nextToTip());
            due.is("nextToTip() of likes below 0, " + places, -1, Rings.level(places, -999).nextToTip());
            // The last place stands between two low ones, and so does, but in a ring of 3, the place 1.
            RingSeesaw low = Rings.with(places, 0, -9);
            low.put(places - 2, -9);
            due.is("nextToTip() beside low ones at both ends of " + places, places == 3 ? 2 : 1, low.nextToTip());
            x.put(places - 1, 9);
            due.asks(x, "nextToTip() at the last of " + places, places - 1, () -> x.nextToTip());
            x.put(0, 9);
            due.asks(x, "nextToTip() at both ends of " + places, 0, () -> x.nextToTip());
        }
    }

    private static void tiltReturns() {
        due.sentence("20", "Returns the tilt on it.");
        for (int places = 3; places <= 12; places++) {
            int last = places - 1;
            due.is("tilt(0) of 1 at 1 of " + places, 1, Rings.with(places, 1, 1).tilt(0));
            due.is("tilt(0) of 1 at the last of " + places, -1, Rings.with(places, last, 1).tilt(0));
            due.is("tilt(0) of its own number, of " + places, 0, Rings.with(places, 0, 999).tilt(0));
            due.is("tilt(last) of 1 at the place 0 of " + places, 1, Rings.with(places, 0, 1).tilt(last));
            due.is("tilt(last) of 1 before it, of " + places, -1, Rings.with(places, last - 1, 1).tilt(last));
            RingSeesaw x = Rings.level(places, -999);
            due.asks(x, "tilt(last) of likes, " + places, 0, () -> x.tilt(last));
        }
        RingSeesaw most = Rings.of(0, 999, 999, 999, 999, 999, 0, -999, -999, -999, -999, -999);
        due.is("tilt(0) of the most", 2 * 999 * 15, most.tilt(0));
        due.is("tilt(6) of the most", -2 * 999 * 15, most.tilt(6));
        due.is("tilt(0) of 4: the place over there is left out", 3 - 5, Rings.of(9, 3, 999, 5).tilt(0));
        due.is("tilt(0) of 5: the distance 2 is taken", (3 - 5) + 2 * (999 - 4), Rings.of(9, 3, 999, 4, 5).tilt(0));
    }

    private static void tiltThrows() {
        due.sentence("20", "Throws IndexOutOfBoundsException if there is no such place");
        due.refusesNoPlace("tilt(..)", (x, place) -> x.tilt(place));
    }

    private static void levelAxes() {
        due.sentence("21", "Returns on how many axes the tilt is 0.");
        for (int places = 3; places <= 12; places++) {
            due.is("levelAxes() of likes, " + places, places, Rings.level(places, -7).levelAxes());
            // The axis through the one number; of an even ring also the place over there.
            int want = places % 2 == 0 ? 2 : 1;
            RingSeesaw x = Rings.with(places, 0, 1);
            due.asks(x, "levelAxes() of the place 0 of " + places, want, () -> x.levelAxes());
            due.is("levelAxes() of the last of " + places, want, Rings.with(places, places - 1, 1).levelAxes());
        }
        due.is("levelAxes() of none", 0, Rings.of(0, 1, 3).levelAxes());
        due.is("levelAxes() of tilts of 1 and -1 as well", 1, Rings.of(0, 0, 1).levelAxes());
    }

    private static void bestAxis() {
        due.sentence("22", "Returns the axis with the tilt nearest to 0, of several the first.");
        for (int places = 3; places <= 12; places++) {
            due.is("bestAxis() of likes, " + places, 0, Rings.level(places, 5).bestAxis());
            RingSeesaw x = Rings.with(places, 0, 9);
            due.asks(x, "bestAxis() at the place 0 of " + places, 0, () -> x.bestAxis());
        }
        due.is("bestAxis() at the last of 3", 2, Rings.of(5, 5, 0).bestAxis());
        due.is("bestAxis() at the last of 11", 10, Rings.with(11, 10, 9).bestAxis());
        due.is("bestAxis() of -2, 1, 1", 1, Rings.of(1, 0, 2).bestAxis());
        due.is("bestAxis() of 2, -1, -1", 1, Rings.of(1, 2, 0).bestAxis());
        due.is("bestAxis() of 1, -2, 1", 0, Rings.of(2, 1, 0).bestAxis());
        due.is("bestAxis() of 3, -8, -3, 8", 0, Rings.of(9, 5, 1, 2).bestAxis());
        due.is("bestAxis() of -3, 8, 3, -8", 0, Rings.of(1, 2, 9, 5).bestAxis());
        due.is("bestAxis() of -1, 0, 1, 0", 1, Rings.of(5, 1, 5, 2).bestAxis());
    }
}
