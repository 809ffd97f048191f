/** Promises 9 to 16: what there is. */
public final class WhatThereIsTest {
    private static final Due due = new Due();

    public static void main(String[] args) {
        places();
        numberAt();
        targets();
        tips();
        sum();
        moment();
        spread();
        highest();
        due.end();
    }

    private static void places() {
        RingSeesaw x = new RingSeesaw();
        due.asks(x, "9: places() at first", 6, () -> x.places());
        for (int places = 3; places <= 12; places++) {
            x.lay(places);
            due.is("9: places()", places, x.places());
        }
    }

    private static void numberAt() {
        RingSeesaw x = Rings.of(5, -6, 7);
        due.asks(x, "10: numberAt(0)", 5, () -> x.numberAt(0));
        due.asks(x, "10: numberAt(1)", -6, () -> x.numberAt(1));
        due.asks(x, "10: numberAt(2)", 7, () -> x.numberAt(2));
        due.refuses(x, "10: numberAt(3)", Rings.NO_INDEX, () -> x.numberAt(3));
        due.refuses(x, "10: numberAt(-1)", Rings.NO_INDEX, () -> x.numberAt(-1));
        due.refuses(x, "10: numberAt(12)", Rings.NO_INDEX, () -> x.numberAt(12));
        due.refuses(x, "10: numberAt(most)", Rings.NO_INDEX, () -> x.numberAt(Integer.MAX_VALUE));
        due.refuses(x, "10: numberAt(least)", Rings.NO_INDEX, () -> x.numberAt(Integer.MIN_VALUE));
    }

    private static void targets() {
        RingSeesaw x = Rings.of(1, 2, 3);
        due.asks(x, "11: targets()", 0, () -> x.targets());
        x.keep();
        x.keep();
        due.asks(x, "11: targets() of two", 2, () -> x.targets());
    }

    private static void tips() {
        RingSeesaw x = Rings.of(0, 0, 0, 10);
        due.asks(x, "12: tips()", 0, () -> x.tips());
        x.tip(0, 5);
        x.tip(1, -7);
        due.is("12: tips() and back", 12, x.tips());
        x.lay(4);
        due.is("12: tips() stay when another is laid", 12, x.tips());
        x.put(3, 4);
        x.settle(5);
        due.is("12: tips() of settle", 13, x.tips());
        x.keep();
        x.tip(2, 3);
        x.reach(0);
        due.is("12: tips() of reach", 19, x.tips());
        x.stepsToRest();
        x.spreadAtRest();
        x.spreadWith(0, 9);
        x.bestPlace();
        due.is("12: tips() of what only would be", 19, x.tips());
    }

    private static void sum() {
        RingSeesaw x = Rings.of(999, -1, 50, -300);
        due.asks(x, "13: sum()", 748, () -> x.sum());
        x.tip(1, 30);
        due.is("13: sum() behind a tip", 748, x.sum());
        due.is("13: sum() of a new one", 0, new RingSeesaw().sum());
    }

    private static void moment() {
        RingSeesaw x = Rings.of(9, 1, 2, 3, 4);
        due.asks(x, "14: moment()", (1 + 4 + 9 + 16) % 5, () -> x.moment());
        RingSeesaw less = Rings.of(0, -1, 0, 0);
        due.is("14: moment() of less than 0", 3, less.moment());
        due.is("14: moment() of a multiple less than 0", 0, Rings.of(0, 0, -2, 0).moment());
        due.is("14: moment() counts places from 0", 2, Rings.of(0, 0, 1).moment());
        x.tip(0, 13);
        x.tip(4, -5);
        due.is("14: moment() behind tips", 0, x.moment());
        due.is("14: moment() of 12", (11 * 7 + 5 * 10) % 12, Rings.of(0, 0, 0, 0, 0, 10, 0, 0, 0, 0, 0, 7).moment());
    }

    private static void spread() {
        RingSeesaw x = Rings.of(3, -8, 12, 0);
        due.asks(x, "15: spread()", 20, () -> x.spread());
        due.is("15: spread() of all less than 0", 4, Rings.of(-5, -9, -6).spread());
        due.is("15: spread() of all more than 0", 4, Rings.of(9, 5, 6).spread());
        due.is("15: spread() of likes", 0, Rings.of(7, 7, 7, 7).spread());
        due.is("15: spread() at the end", 11, Rings.of(0, 0, 0, 11).spread());
    }

    private static void highest() {
        RingSeesaw x = Rings.of(3, 12, -8, 12);
        due.asks(x, "16: highest()", 1, () -> x.highest());
        due.is("16: highest() at the end", 3, Rings.of(-3, -4, -5, -2).highest());
        due.is("16: highest() at the start", 0, Rings.of(4, 4, 4).highest());
    }
}
