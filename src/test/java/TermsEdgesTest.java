import java.util.function.Function;

/** The document's 'Terms' and what it says ahead of them: a test for each sentence that names a boundary. */
public final class TermsEdgesTest {
    private static final int MOST_CALLS = 512;
    private static final Due due = new Due();

    public static void main(String[] args) {
        mostCalls();
        cutTowardsZero();
        threeToTwelvePlaces();
        neighbours();
        numbers();
        tippingOnce();
        tippingBackOnce();
        moment();
        steep();
        sixTargets();
        targetsKeepAllNumbers();
        reachedHoweverOften();
        tipsWithoutPlaceZero();
        tiltDistances();
        throwingChangesNothing();
        firstNamedIsThrown();
        due.end();
    }

    private static void mostCalls() {
        due.sentence("What it is", "An object is used for at most 512 calls after it has been made");
        RingSeesaw x = new RingSeesaw();
        for (int call = 1; call < MOST_CALLS; call++) {
            due.is("tip(5, -50), call " + call, 100 * call, x.tip(5, -50));
        }
        due.is("spread(), the last call", (MOST_CALLS - 1) * 150, x.spread());

        RingSeesaw y = new RingSeesaw();
        for (int call = 1; call < MOST_CALLS; call++) {
            y.tip(call % 6, 50 - call % 2);
        }
        due.is("tips(), the last call", (MOST_CALLS - 1) * 50 - MOST_CALLS / 2, y.tips());
    }

    private static void cutTowardsZero() {
        due.sentence("Terms", "All numbers are whole, and / is cut towards 0.");
        due.is("(4 less 1) / 2 leaves the distance 2 out", 0, Rings.of(0, 0, 50, 0).tilt(0));
        due.is("(12 less 1) / 2 leaves the distance 6 out", 0, Rings.with(12, 6, 50).tilt(0));
        due.is("(11 less 1) / 2 takes the distance 5", 250, Rings.with(11, 5, 50).tilt(0));
    }

    private static void threeToTwelvePlaces() {
        due.sentence("Terms", "There are 3 to 12 places (6, at first), numbered from 0");
        due.is("places() at first", 6, new RingSeesaw().places());
        for (int places = 3; places <= 12; places++) {
            RingSeesaw x = new RingSeesaw();
            x.lay(places);
            due.is("places()", places, x.places());
            due.is("numberAt(0) of " + places, 0, x.numberAt(0));
            due.is("numberAt(last) of " + places, 0, x.numberAt(places - 1));
            int beyond = places;
            due.refuses(x, "numberAt(" + places + ") of " + places, Rings.NO_INDEX, () -> x.numberAt(beyond));
            due.refuses(x, "numberAt(-1) of " + places, Rings.NO_INDEX, () -> x.numberAt(-1));
        }
        RingSeesaw x = new RingSeesaw();
        due.refuses(x, "lay(2)", Rings.NO_ARGUMENT, () -> x.lay(2));
        due.refuses(x, "lay(13)", Rings.NO_ARGUMENT, () -> x.lay(13));
    }

    private static void neighbours() {
        due.sentence("Terms", "the neighbours of a place are the next one and the one before, "
                + "those of the last one are that before it and 0");
        for (int places = 3; places <= 12; places++) {
            for (int place = 0; place < places; place++) {
                int[] want = new int[places];
                want[place] = -2;
                want[place == places - 1 ? 0 : place + 1] = 1;
                want[place == 0 ? places - 1 : place - 1] = 1;
                RingSeesaw x = Rings.with(places, 0, 0);
                x.tip(place, 1);
                due.is("the numbers of " + places + " behind tip(" + place + ", 1)", Rings.row(want),
                        Rings.numbers(x));
            }
        }
    }

    private static void numbers() {
        due.sentence("Terms", "Each place has a number, -999 to 999 when it is put there (0, at first); "
                + "by tipping it can be less or more.");
        RingSeesaw x = new RingSeesaw();
        due.is("the numbers at first", Rings.row(0, 0, 0, 0, 0, 0), Rings.numbers(x));
        x.put(0, 999);
        x.put(5, -999);
        due.refuses(x, "put(0, 1000)", Rings.NO_ARGUMENT, () -> x.put(0, 1000));
        due.refuses(x, "put(0, -1000)", Rings.NO_ARGUMENT, () -> x.put(0, -1000));
        due.is("tip(0, -1) of 999", 1001, x.tip(0, -1));
        due.is("numberAt(5) beside it", -1000, x.numberAt(5));
        due.is("tip(5, 50)", -1100, x.tip(5, 50));
        due.is("numberAt(0) beside it", 1051, x.numberAt(0));
    }

    private static void tippingOnce() {
        due.sentence("Terms", "Tipping a place once: its number is 2 less, those of both neighbours are 1 more.");
        RingSeesaw x = Rings.of(5, 6, 7, 8);
        x.tip(0, 1);
        due.is("the numbers behind tip(0, 1)", Rings.row(3, 7, 7, 9), Rings.numbers(x));
        x.tip(3, 1);
        due.is("the numbers behind tip(3, 1)", Rings.row(4, 7, 8, 7), Rings.numbers(x));
    }

    private static void tippingBackOnce() {
        due.sentence("Terms", "Tipping it back once: 2 more, and 1 less each.");
        RingSeesaw x = Rings.of(5, 6, 7, 8);
        x.tip(0, -1);
        due.is("the numbers behind tip(0, -1)", Rings.row(7, 5, 7, 7), Rings.numbers(x));
        x.tip(3, -1);
        due.is("the numbers behind tip(3, -1)", Rings.row(6, 5, 6, 9), Rings.numbers(x));
    }

    private static void moment() {
        due.sentence("Terms", "Moment: each number times its place, added; "
                + "what that leaves divided by how many places there are, 0 or more.");
        for (int places = 3; places <= 12; places++) {
            for (int number = -2 * places; number <= 2 * places; number++) {
                int want = (number + 2 * places) % places;
                due.is("moment() of " + number + " at 1 of " + places, want,
                        Rings.with(places, 1, number).moment());
            }
            due.is("moment() of 999 at 0 of " + places, 0, Rings.with(places, 0, 999).moment());
            due.is("moment() of -1 at the last of " + places, 1, Rings.with(places, places - 1, -1).moment());
        }
    }

    private static void steep() {
        due.sentence("Terms", "A place is steep, if twice its number, less those of both neighbours, is more than 3.");
        due.is("isSteep(0) of 4 more", true, Rings.of(5, 3, 0, 3).isSteep(0));
        due.is("isSteep(0) of 3 more", false, Rings.of(5, 3, 0, 4).isSteep(0));
        due.is("isSteep(3) of 4 more", true, Rings.of(3, 0, 3, 5).isSteep(3));
        due.is("isSteep(3) of 3 more", false, Rings.of(4, 0, 3, 5).isSteep(3));
        due.is("isSteep(1) of 4 more, below 0", true, Rings.of(-7, -5, -7).isSteep(1));
        due.is("isSteep(1) of 3 more, below 0", false, Rings.of(-7, -5, -6).isSteep(1));
        due.is("isSteep(1) of 4 less", false, Rings.of(2, 0, 2).isSteep(1));
    }

    private static void sixTargets() {
        due.sentence("Terms", "At most 6, numbered from 0");
        RingSeesaw x = new RingSeesaw();
        for (int target = 0; target < 6; target++) {
            due.is("keep()", target, x.keep());
        }
        due.refuses(x, "keep() of a seventh", Rings.NO_STATE, () -> x.keep());
        due.is("differences(0)", 0, x.differences(0));
        due.is("differences(5)", 0, x.differences(5));
        due.refuses(x, "differences(6)", Rings.NO_INDEX, () -> x.differences(6));
        due.refuses(x, "differences(-1)", Rings.NO_INDEX, () -> x.differences(-1));
    }

    private static void targetsKeepAllNumbers() {
        due.sentence("Terms", "each keeps all numbers as they were");
        for (int places = 3; places <= 12; places++) {
            RingSeesaw x = Rings.with(places, places - 1, -999);
            x.put(0, 999);
            x.tip(0, -1);
            String want = Rings.numbers(x);
            x.keep();
            x.put(0, 1);
            x.put(places - 1, 1);
            x.turn();
            due.is("the target of " + places, want, Rings.target(x, 0));
        }
    }

    private static void reachedHoweverOften() {
        due.sentence("Terms", "A target can be reached, if by tipping places, or tipping them back, however often, "
                + "all numbers become those of the target.");
        RingSeesaw x = Rings.with(12, 0, 0);
        x.keep();
        due.is("canReach(0) by no tips", true, x.canReach(0));
        x.put(0, 999);
        x.put(4, -999);
        due.is("canReach(0) by some thousand tips", true, x.canReach(0));
        x.put(4, -998);
        due.is("canReach(0) with a sum of 1 more", false, x.canReach(0));
        x.put(3, -1);
        due.is("canReach(0) with a moment of 1 more", false, x.canReach(0));
    }

    private static void tipsWithoutPlaceZero() {
        due.sentence("Terms", "The tips to a target: how often each place has to be tipped (less than 0: back) for it, "
                + "if the place 0 is not tipped at all.");
        RingSeesaw x = Rings.of(0, 0, 0, 0);
        x.keep();
        due.is("the tips to itself", Rings.row(0, 0, 0, 0), Rings.tipsTo(x, 0));
        x.tip(0, 2);
        due.is("the tips where place 0 was tipped", Rings.row(0, 2, 2, 2), Rings.tipsTo(x, 0));
        x.tip(0, -4);
        due.is("the tips where place 0 was tipped back", Rings.row(0, -2, -2, -2), Rings.tipsTo(x, 0));
        x.tip(0, 2);
        x.tip(3, 5);
        due.is("the tips where the last one was tipped", Rings.row(0, 0, 0, -5), Rings.tipsTo(x, 0));
    }

    private static void tiltDistances() {
        due.sentence("Terms", "Tilt on an axis, which is a place: for each distance from 1 to (how many places there are "
                + "less 1) / 2 the number of the place so far on, less that of the place so far back, "
                + "times the distance; added.");
        for (int places = 3; places <= 12; places++) {
            int most = (places - 1) / 2;
            for (int axis = 0; axis < places; axis++) {
                for (int on = 0; on < places; on++) {
                    int back = places - on;
                    int want = on <= most ? on : back <= most ? -back : 0;
                    RingSeesaw x = Rings.with(places, (axis + on) % places, 1);
                    due.is("tilt(" + axis + ") of 1 put " + on + " on, of " + places, want, x.tilt(axis));
                }
            }
        }
    }

    private static void throwingChangesNothing() {
        due.sentence("Terms", "A method that throws an exception changes nothing.");
        changesNothing("lay(13)", x -> x.lay(13));
        changesNothing("put(12, 1)", x -> x.put(12, 1));
        changesNothing("put(0, 1000)", x -> x.put(0, 1000));
        changesNothing("tip(12, 1)", x -> x.tip(12, 1));
        changesNothing("tip(0, 51)", x -> x.tip(0, 51));
        changesNothing("settle(201)", x -> x.settle(201));
        changesNothing("reach(2)", x -> x.reach(2));
        changesNothing("reach(0)", x -> x.reach(0));
        changesNothing("numberAt(12)", x -> x.numberAt(12));
        changesNothing("isSteep(12)", x -> x.isSteep(12));
        changesNothing("tilt(12)", x -> x.tilt(12));
        changesNothing("numberIn(2, 0)", x -> x.numberIn(2, 0));
        changesNothing("differences(2)", x -> x.differences(2));
        changesNothing("canReach(2)", x -> x.canReach(2));
        changesNothing("tipsTo(2, 0)", x -> x.tipsTo(2, 0));
        changesNothing("tipsTo(0, 0)", x -> x.tipsTo(0, 0));
        changesNothing("fewestTips(2)", x -> x.fewestTips(2));
        changesNothing("spreadWith(12, 1)", x -> x.spreadWith(12, 1));
        changesNothing("spreadWith(0, 51)", x -> x.spreadWith(0, 51));
        changesNothing("placeFor(1000)", x -> x.placeFor(1000));
        RingSeesaw six = Rings.withTargets(6);
        long before = six.digest();
        due.refuses(six, "keep()", Rings.NO_STATE, () -> six.keep());
        due.is("digest() behind keep()", before, six.digest());
    }

    private static void changesNothing(String what, Function<RingSeesaw, Object> call) {
        RingSeesaw x = Rings.full(12);
        String state = Rings.state(x);
        long digest = x.digest();
        boolean threw = false;
        try {
            call.apply(x);
        } catch (RuntimeException e) {
            threw = true;
        }
        due.is(what + " throws:", true, threw);
        due.is("the state behind " + what, state, Rings.state(x));
        due.is("digest() behind " + what, digest, x.digest());
    }

    private static void firstNamedIsThrown() {
        due.sentence("Terms", "If several exceptions apply, the one that is named first is thrown.");
        due.refusesNoPlace("put(.., 1000)", (x, place) -> x.put(place, 1000));
        due.refusesNoPlace("put(.., -1000)", (x, place) -> x.put(place, -1000));
        due.refusesNoPlace("tip(.., 51)", (x, place) -> x.tip(place, 51));
        due.refusesNoPlace("tip(.., -51)", (x, place) -> x.tip(place, -51));
        due.refusesNoPlace("spreadWith(.., 51)", (x, place) -> x.spreadWith(place, 51));
        due.refusesNoPlace("spreadWith(.., -51)", (x, place) -> x.spreadWith(place, -51));
        // Target 0 of a full ring cannot be reached.
        due.refusesNoPlace("tipsTo(0, ..)", (x, place) -> x.tipsTo(0, place));
        due.refusesNoTarget("tipsTo(.., 4)", (x, target) -> x.tipsTo(target, 4));
    }
}
