/** Promises 1 to 8: the ring. */
public final class RingTest {
    private static final Due due = new Due();

    public static void main(String[] args) {
        newObject();
        lay();
        put();
        tip();
        turn();
        keep();
        settle();
        reach();
        refusedReach();
        due.end();
    }

    private static void newObject() {
        RingSeesaw x = new RingSeesaw();
        due.is("1: places()", 6, x.places());
        due.is("1: the numbers", Rings.row(0, 0, 0, 0, 0, 0), Rings.numbers(x));
        due.is("1: targets()", 0, x.targets());
        due.is("1: tips()", 0, x.tips());
    }

    private static void lay() {
        RingSeesaw x = Rings.of(1, 2, 3, 4);
        x.keep();
        x.tip(1, -4);
        due.is("2: lay(12)", 4, x.lay(12));
        due.is("2: places()", 12, x.places());
        due.is("2: the numbers", Rings.row(new int[12]), Rings.numbers(x));
        due.is("2: targets()", 0, x.targets());
        due.is("2: tips() stay", 4, x.tips());
        x.put(11, 5);
        due.is("2: lay(3)", 12, x.lay(3));
        due.is("2: places()", 3, x.places());
        due.is("2: lay(12) again", 3, x.lay(12));
        due.is("2: numberAt(11)", 0, x.numberAt(11));
        x.put(11, 5);
        due.is("2: lay(12) as before", 12, x.lay(12));
        due.is("2: numberAt(11) is new", 0, x.numberAt(11));

        RingSeesaw y = Rings.of(7, 8, 9);
        y.keep();
        int[] wrong = {2, 13, 0, -1, Integer.MIN_VALUE, Integer.MAX_VALUE};
        for (int places : wrong) {
            due.refuses(y, "2: lay(" + places + ")", Rings.NO_ARGUMENT, () -> y.lay(places));
        }
    }

    private static void put() {
        RingSeesaw x = new RingSeesaw();
        due.is("3: put(5, 999)", 0, x.put(5, 999));
        due.is("3: put(5, -999)", 999, x.put(5, -999));
        due.is("3: put(0, 4)", 0, x.put(0, 4));
        due.is("3: the numbers", Rings.row(4, 0, 0, 0, 0, -999), Rings.numbers(x));
        x.tip(5, 2);
        due.is("3: put behind a tip", -1003, x.put(5, 1));
        due.is("3: put is no tip", 2, x.tips());

        due.refuses(x, "3: put(6, 0)", Rings.NO_INDEX, () -> x.put(6, 0));
        due.refuses(x, "3: put(-1, 0)", Rings.NO_INDEX, () -> x.put(-1, 0));
        due.refuses(x, "3: put(0, 1000)", Rings.NO_ARGUMENT, () -> x.put(0, 1000));
        due.refuses(x, "3: put(0, -1000)", Rings.NO_ARGUMENT, () -> x.put(0, -1000));
        due.refuses(x, "3: put(6, 1000)", Rings.NO_INDEX, () -> x.put(6, 1000));
        RingSeesaw small = Rings.of(1, 2, 3);
        due.refuses(small, "3: put(3, 0) of 3", Rings.NO_INDEX, () -> small.put(3, 0));
        RingSeesaw large = Rings.of(new int[12]);
        due.is("3: put(11, 1) of 12", 0, large.put(11, 1));
        due.refuses(large, "3: put(12, 0) of 12", Rings.NO_INDEX, () -> large.put(12, 0));
    }

    private static void tip() {
        RingSeesaw x = Rings.of(10, 20, 30, 40, 50);
        due.is("4: tip(2, 3)", 24, x.tip(2, 3));
        due.is("4: the numbers", Rings.row(10, 23, 24, 43, 50), Rings.numbers(x));
        due.is("4: tip(0, 1)", 8, x.tip(0, 1));
        due.is("4: the numbers round place 0", Rings.row(8, 24, 24, 43, 51), Rings.numbers(x));
        due.is("4: tip(4, -2)", 55, x.tip(4, -2));
        due.is("4: the numbers round the last place", Rings.row(6, 24, 24, 41, 55), Rings.numbers(x));
        due.is("4: tip(1, 0)", 24, x.tip(1, 0));
        due.is("4: tips()", 6, x.tips());
        due.is("4: tip(3, 50)", -59, x.tip(3, 50));
        due.is("4: tip(3, -50)", 41, x.tip(3, -50));
        due.is("4: tips() back too", 106, x.tips());

        RingSeesaw three = Rings.of(999, -999, 0);
        due.is("4: tip(0, -50) beyond 999", 1099, three.tip(0, -50));
        due.is("4: the numbers of 3", Rings.row(1099, -1049, -50), Rings.numbers(three));

        due.refuses(x, "4: tip(5, 1)", Rings.NO_INDEX, () -> x.tip(5, 1));
        due.refuses(x, "4: tip(-1, 1)", Rings.NO_INDEX, () -> x.tip(-1, 1));
        due.refuses(x, "4: tip(0, 51)", Rings.NO_ARGUMENT, () -> x.tip(0, 51));
        due.refuses(x, "4: tip(0, -51)", Rings.NO_ARGUMENT, () -> x.tip(0, -51));
        due.refuses(x, "4: tip(0, least)", Rings.NO_ARGUMENT, () -> x.tip(0, Integer.MIN_VALUE));
        due.refuses(x, "4: tip(5, 51)", Rings.NO_INDEX, () -> x.tip(5, 51));
    }

    private static void turn() {
        RingSeesaw x = Rings.of(1, 2, 3, 4);
        x.keep();
        due.is("5: turn()", 4, x.turn());
        due.is("5: the numbers", Rings.row(4, 1, 2, 3), Rings.numbers(x));
        due.is("5: turn() again", 3, x.turn());
        due.is("5: the numbers then", Rings.row(3, 4, 1, 2), Rings.numbers(x));
        due.is("5: the target stays", Rings.row(1, 2, 3, 4), Rings.target(x, 0));
        due.is("5: turn() is no tip", 0, x.tips());
    }

    private static void keep() {
        RingSeesaw x = Rings.of(1, 2, 3);
        for (int target = 0; target < 6; target++) {
            due.is("6: keep()", target, x.keep());
            x.put(1, 10 * (target + 1));
        }
        due.is("6: the first", Rings.row(1, 2, 3), Rings.target(x, 0));
        due.is("6: the second", Rings.row(1, 10, 3), Rings.target(x, 1));
        due.is("6: the last", Rings.row(1, 50, 3), Rings.target(x, 5));
        due.refuses(x, "6: keep() of a seventh", Rings.NO_STATE, () -> x.keep());
        x.lay(3);
        due.is("6: keep() after lay(3)", 0, x.keep());
        due.is("6: the new one", Rings.row(0, 0, 0), Rings.target(x, 0));
    }

    private static void settle() {
        RingSeesaw x = Rings.of(20, 0, 0, 0, 0);
        due.is("7: settle(3)", 3, x.settle(3));
        due.is("7: the numbers", Rings.row(14, 3, 0, 0, 3), Rings.numbers(x));
        due.is("7: tips()", 3, x.tips());
        due.is("7: settle(200)", 10, x.settle(200));
        due.is("7: nothing is steep", 0, x.steepPlaces());
        due.is("7: tips() then", 13, x.tips());
        due.is("7: settle(1) at rest", 0, x.settle(1));

        RingSeesaw order = Rings.of(0, 0, 4, 0, 0, 4, 0);
        due.is("7: settle(1)", 1, order.settle(1));
        due.is("7: the first steep place tips", Rings.row(0, 1, 2, 1, 0, 4, 0), Rings.numbers(order));
        due.is("7: settle(2) where one is left", 1, order.settle(2));
        due.is("7: the other tips", Rings.row(0, 1, 2, 1, 1, 2, 1), Rings.numbers(order));

        RingSeesaw high = Rings.of(999, 0, 0);
        due.is("7: settle(200) of many", 200, high.settle(200));
        due.refuses(high, "7: settle(0)", Rings.NO_ARGUMENT, () -> high.settle(0));
        due.refuses(high, "7: settle(201)", Rings.NO_ARGUMENT, () -> high.settle(201));
        due.refuses(high, "7: settle(-1)", Rings.NO_ARGUMENT, () -> high.settle(-1));
    }

    private static void reach() {
        RingSeesaw x = Rings.of(3, 1, 4, 1, 5, 9);
        x.keep();
        x.tip(1, 7);
        x.tip(4, -2);
        due.is("8: reach(0)", 9, x.reach(0));
        due.is("8: the numbers", Rings.row(3, 1, 4, 1, 5, 9), Rings.numbers(x));
        due.is("8: tips()", 18, x.tips());
        due.is("8: reach(0) again", 0, x.reach(0));
        due.is("8: tips() then", 18, x.tips());
        due.is("8: the target stays", Rings.row(3, 1, 4, 1, 5, 9), Rings.target(x, 0));
        x.tip(0, 1);
        due.is("8: and stays behind a tip", Rings.row(3, 1, 4, 1, 5, 9), Rings.target(x, 0));

        RingSeesaw most = Rings.of(0, 0, 0, 0);
        most.keep();
        most.tip(0, 2);
        most.tip(1, 2);
        most.tip(2, 2);
        due.is("8: reach(0) the short way", 2, most.reach(0));
        due.is("8: tips() the short way", 8, most.tips());
    }

    private static void refusedReach() {
        RingSeesaw x = Rings.of(0, 0, 0, 0);
        due.refuses(x, "8: reach(0) without targets", Rings.NO_INDEX, () -> x.reach(0));
        x.keep();
        x.put(2, 1);
        due.refuses(x, "8: reach(0) with another sum", Rings.NO_STATE, () -> x.reach(0));
        x.put(1, -1);
        due.refuses(x, "8: reach(0) with another moment", Rings.NO_STATE, () -> x.reach(0));
        due.refuses(x, "8: reach(1)", Rings.NO_INDEX, () -> x.reach(1));
        due.refuses(x, "8: reach(-1)", Rings.NO_INDEX, () -> x.reach(-1));
    }
}
