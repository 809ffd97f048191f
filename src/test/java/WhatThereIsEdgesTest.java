/** Promises 9 to 16, what there is: a test for each sentence that names a boundary. */
public final class WhatThereIsEdgesTest {
    private static final Due due = new Due();

    public static void main(String[] args) {
        places();
        numberAtReturns();
        numberAtThrows();
        targets();
        tips();
        sum();
        moment();
        spread();
        highest();
        due.end();
    }

    private static void places() {
        due.sentence("9", "Returns how many places there are.");
        RingSeesaw x = new RingSeesaw();
        due.asks(x, "places() at first", 6, () -> x.places());
        x.lay(3);
        due.asks(x, "places() of the fewest", 3, () -> x.places());
        x.lay(12);
        due.asks(x, "places() of the most", 12, () -> x.places());
        due.refuses(x, "lay(13)", Rings.NO_ARGUMENT, () -> x.lay(13));
        due.is("places() behind a refused lay(13)", 12, x.places());
    }

    private static void numberAtReturns() {
        due.sentence("10", "Returns its number.");
        for (int places = 3; places <= 12; places++) {
            RingSeesaw x = Rings.with(places, 0, 999);
            x.put(places - 1, -999);
            due.asks(x, "numberAt(0) of " + places, 999, () -> x.numberAt(0));
            due.asks(x, "numberAt(last) of " + places, -999, () -> x.numberAt(x.places() - 1));
            x.tip(0, -50);
            due.is("numberAt(0) beyond 999, of " + places, 1099, x.numberAt(0));
            due.is("numberAt(last) beyond -999, of " + places, -1049, x.numberAt(places - 1));
        }
    }

    private static void numberAtThrows() {
        due.sentence("10", "Throws IndexOutOfBoundsException if there is no such place");
        due.refusesNoPlace("numberAt(..)", (x, place) -> x.numberAt(place));
    }

    private static void targets() {
        due.sentence("11", "Returns how many targets there are.");
        for (int targets = 0; targets <= 6; targets++) {
            RingSeesaw x = Rings.withTargets(targets);
            due.asks(x, "targets()", targets, () -> x.targets());
        }
        RingSeesaw six = Rings.withTargets(6);
        due.refuses(six, "keep() of a seventh", Rings.NO_STATE, () -> six.keep());
        due.is("targets() behind a refused keep()", 6, six.targets());
    }

    private static void tips() {
        due.sentence("12", "Returns how many tips were done in all, back or not.");
        RingSeesaw x = new RingSeesaw();
        due.asks(x, "tips() at first", 0, () -> x.tips());
        x.tip(0, 0);
        due.is("tips() behind tip(0, 0)", 0, x.tips());
        x.tip(0, -50);
        due.is("tips() behind tip(0, -50)", 50, x.tips());
        x.tip(0, 50);
        due.is("tips() behind tip(0, 50)", 100, x.tips());
        due.refuses(x, "tip(0, 51)", Rings.NO_ARGUMENT, () -> x.tip(0, 51));
        due.is("settle(200) at rest", 0, x.settle(200));
        x.keep();
        due.is("reach(0) at it", 0, x.reach(0));
        x.put(0, 9);
        x.turn();
        due.is("tips() behind calls without one", 100, x.tips());
        x.lay(3);
        due.is("tips() behind lay(3)", 100, x.tips());
        x.put(0, 999);
        x.settle(200);
        due.is("tips() behind settle(200)", 300, x.tips());
    }

    private static void sum() {
        due.sentence("13", "Returns all numbers, added.");
        due.is("sum() at first", 0, new RingSeesaw().sum());
        due.is("sum() of the most", 11988, Rings.level(12, 999).sum());
        due.is("sum() of the least", -11988, Rings.level(12, -999).sum());
        due.is("sum() of the fewest places", 2997, Rings.level(3, 999).sum());
        for (int places = 3; places <= 12; places++) {
            due.is("sum() of the place 0 of " + places, 5, Rings.with(places, 0, 5).sum());
            due.is("sum() of the last place of " + places, 5, Rings.with(places, places - 1, 5).sum());
        }
        RingSeesaw x = Rings.of(999, -999, 0);
        x.tip(0, -50);
        due.asks(x, "sum() of numbers beyond", 0, () -> x.sum());
    }

    private static void moment() {
        due.sentence("14", "Returns the moment.");
        for (int places = 3; places <= 12; places++) {
            due.is("moment() at first, of " + places, 0, Rings.level(places, 0).moment());
            due.is("moment() of 999 at the place 0 of " + places, 0, Rings.with(places, 0, 999).moment());
            due.is("moment() of 1 at the last of " + places, places - 1, Rings.with(places, places - 1, 1).moment());
            due.is("moment() of -1 at 1 of " + places, places - 1, Rings.with(places, 1, -1).moment());
            due.is("moment() of all the way round, of " + places, 0, Rings.with(places, 1, places).moment());
            due.is("moment() of all the way back, of " + places, 0, Rings.with(places, 1, -places).moment());
            RingSeesaw x = Rings.with(places, 1, 1);
            x.tip(0, 1);
            x.tip(places - 1, -50);
            due.asks(x, "moment() behind tips at both ends, of " + places, 1, () -> x.moment());
        }
        due.is("moment() of the most", 6, Rings.level(12, 999).moment());
        due.is("moment() of the least", 6, Rings.level(12, -999).moment());
    }

    private static void spread() {
        due.sentence("15", "Returns the greatest number of a place less the smallest one.");
        for (int places = 3; places <= 12; places++) {
            RingSeesaw x = Rings.with(places, 0, 999);
            x.put(places - 1, -999);
            due.asks(x, "spread() of the ends of " + places, 1998, () -> x.spread());
            x.turn();
            due.is("spread() of the ends of " + places + " turned", 1998, x.spread());
            due.is("spread() of likes, " + places, 0, Rings.level(places, -999).spread());
            due.is("spread() of 1, " + places, 1, Rings.with(places, places - 1, -1).spread());
        }
        RingSeesaw beyond = Rings.of(999, -999, 0);
        beyond.tip(0, -50);
        due.is("spread() beyond 999", 2148, beyond.spread());
    }

    private static void highest() {
        due.sentence("16", "Returns the place with the greatest number, of several the first.");
        for (int places = 3; places <= 12; places++) {
            due.is("highest() of likes, " + places, 0, Rings.level(places, 999).highest());
            due.is("highest() of likes below 0, " + places, 0, Rings.level(places, -999).highest());
            RingSeesaw x = Rings.with(places, places - 1, 1);
            due.asks(x, "highest() at the last of " + places, places - 1, () -> x.highest());
            x.put(1, 1);
            due.is("highest() of two, the last of " + places + " one of them", 1, x.highest());
            x.put(0, 1);
            due.is("highest() of three, the place 0 of " + places + " one of them", 0, x.highest());
        }
        due.is("highest() of 1 more below 0", 2, Rings.of(-999, -999, -998, -999).highest());
    }
}
