/** Promises 23 to 29: targets. */
public final class TargetsTest {
    private static final Due due = new Due();

    public static void main(String[] args) {
        numberIn();
        differences();
        canReach();
        canReachAllSizes();
        reachable();
        tipsTo();
        fewestTips();
        nearestTarget();
        due.end();
    }

    private static void numberIn() {
        RingSeesaw x = Rings.of(4, 5, 6);
        x.keep();
        Rings.write(x, 7, 8, 9);
        x.keep();
        due.asks(x, "23: numberIn(0, 0)", 4, () -> x.numberIn(0, 0));
        due.asks(x, "23: numberIn(0, 2)", 6, () -> x.numberIn(0, 2));
        due.asks(x, "23: numberIn(1, 1)", 8, () -> x.numberIn(1, 1));
        due.refuses(x, "23: numberIn(2, 0)", Rings.NO_INDEX, () -> x.numberIn(2, 0));
        due.refuses(x, "23: numberIn(-1, 0)", Rings.NO_INDEX, () -> x.numberIn(-1, 0));
        due.refuses(x, "23: numberIn(0, 3)", Rings.NO_INDEX, () -> x.numberIn(0, 3));
        due.refuses(x, "23: numberIn(0, -1)", Rings.NO_INDEX, () -> x.numberIn(0, -1));
        due.refuses(x, "23: numberIn(6, 0)", Rings.NO_INDEX, () -> x.numberIn(6, 0));
    }

    private static void differences() {
        RingSeesaw x = Rings.of(4, 5, 6, 7);
        x.keep();
        due.asks(x, "24: differences(0) of none", 0, () -> x.differences(0));
        Rings.write(x, 5, 5, 6, 6);
        x.keep();
        due.asks(x, "24: differences(0)", 2, () -> x.differences(0));
        due.is("24: differences(1)", 0, x.differences(1));
        Rings.write(x, 0, 0, 0, 0);
        due.is("24: differences(0) of all", 4, x.differences(0));
        due.refuses(x, "24: differences(2)", Rings.NO_INDEX, () -> x.differences(2));
        due.refuses(x, "24: differences(-1)", Rings.NO_INDEX, () -> x.differences(-1));
    }

    private static void canReach() {
        RingSeesaw x = Rings.of(0, 0, 0, 0);
        x.keep();
        due.asks(x, "25: canReach(0) at it", true, () -> x.canReach(0));
        Rings.write(x, 1, 0, 0, 0);
        due.asks(x, "25: canReach(0) with another sum", false, () -> x.canReach(0));
        Rings.write(x, 1, -1, 0, 0);
        due.asks(x, "25: canReach(0) with another moment", false, () -> x.canReach(0));
        Rings.write(x, 4, -4, 0, 0);
        due.asks(x, "25: canReach(0) where the moments meet", true, () -> x.canReach(0));
        Rings.write(x, 0, 1, 0, -1);
        due.is("25: canReach(0) of 1 less 3", false, x.canReach(0));
        Rings.write(x, 0, 2, 0, -2);
        due.is("25: canReach(0) of 2 less 6", true, x.canReach(0));
        x.turn();
        due.is("25: canReach(0) when all turns, the sum 0", true, x.canReach(0));
        due.refuses(x, "25: canReach(1)", Rings.NO_INDEX, () -> x.canReach(1));
        due.refuses(x, "25: canReach(-1)", Rings.NO_INDEX, () -> x.canReach(-1));
    }

    /** One given from place 0 to its neighbour k times can be undone just where k is a multiple of the places. */
    private static void canReachAllSizes() {
        for (int places = 3; places <= 12; places++) {
            RingSeesaw x = new RingSeesaw();
            x.lay(places);
            x.keep();
            for (int given = 0; given <= 2 * places; given++) {
                x.put(0, -given);
                x.put(1, given);
                due.is("25: canReach(0), " + given + " given, of " + places, given % places == 0, x.canReach(0));
            }
        }
    }

    private static void reachable() {
        RingSeesaw x = Rings.of(0, 0, 0);
        due.asks(x, "26: reachable() without targets", 0, () -> x.reachable());
        x.keep();
        x.tip(0, 1);
        x.keep();
        x.put(0, 7);
        x.keep();
        due.asks(x, "26: reachable() of itself", 1, () -> x.reachable());
        x.put(0, -2);
        due.asks(x, "26: reachable() of two", 2, () -> x.reachable());
        x.put(1, 2);
        due.is("26: reachable() of none", 0, x.reachable());
    }

    private static void tipsTo() {
        RingSeesaw x = Rings.of(7, 0, 0, -2, 0, 0);
        x.keep();
        x.tip(3, 4);
        x.tip(4, -1);
        due.is("27: the tips to 0", Rings.row(0, 0, 0, -4, 1, 0), Rings.tipsTo(x, 0));
        x.tip(0, 2);
        due.is("27: the tips where place 0 is not tipped", Rings.row(0, 2, 2, -2, 3, 2), Rings.tipsTo(x, 0));
        due.asks(x, "27: tipsTo(0, 4)", 3, () -> x.tipsTo(0, 4));
        x.keep();
        due.is("27: the tips to itself", Rings.row(0, 0, 0, 0, 0, 0), Rings.tipsTo(x, 1));
        RingSeesaw three = Rings.of(0, 0, 0);
        three.keep();
        Rings.write(three, 1, 1, -2);
        due.is("27: the tips of 3", Rings.row(0, 0, -1), Rings.tipsTo(three, 0));

        due.refuses(x, "27: tipsTo(2, 0)", Rings.NO_INDEX, () -> x.tipsTo(2, 0));
        due.refuses(x, "27: tipsTo(-1, 0)", Rings.NO_INDEX, () -> x.tipsTo(-1, 0));
        due.refuses(x, "27: tipsTo(0, 6)", Rings.NO_INDEX, () -> x.tipsTo(0, 6));
        due.refuses(x, "27: tipsTo(0, -1)", Rings.NO_INDEX, () -> x.tipsTo(0, -1));
        x.put(0, 1);
        due.refuses(x, "27: tipsTo(0, 0) with another sum", Rings.NO_STATE, () -> x.tipsTo(0, 0));
        due.refuses(x, "27: tipsTo(0, 6) that cannot be reached", Rings.NO_INDEX, () -> x.tipsTo(0, 6));
    }

    private static void fewestTips() {
        RingSeesaw x = Rings.of(0, 0, 0, 0, 0);
        x.keep();
        due.asks(x, "28: fewestTips(0) at it", 0, () -> x.fewestTips(0));
        x.tip(0, 3);
        x.tip(2, -2);
        due.asks(x, "28: fewestTips(0)", 5, () -> x.fewestTips(0));
        x.tip(1, 3);
        x.tip(4, 3);
        due.is("28: fewestTips(0) the short way: 3, 3, -2, 0, 3", 8, x.fewestTips(0));
        x.tip(3, 3);
        due.is("28: fewestTips(0) the short way: 3, 3, -2, 3, 3", 5, x.fewestTips(0));
        RingSeesaw even = Rings.of(0, 0, 0, 0);
        even.keep();
        even.tip(0, 1);
        even.tip(1, 2);
        even.tip(2, 30);
        even.tip(3, 40);
        due.is("28: fewestTips(0) between 2 and 30", 1 + 28 + 38, even.fewestTips(0));
        for (int place = 0; place < 3; place++) {
            RingSeesaw three = Rings.of(0, 0, 0);
            three.keep();
            three.tip(place, 7);
            three.tip((place + 1) % 3, -4);
            due.is("28: fewestTips(0) of 7, -4 and 0, from place " + place, 11, three.fewestTips(0));
        }
        x.put(0, 999);
        due.is("28: fewestTips(0) that cannot be reached", -1, x.fewestTips(0));
        due.refuses(x, "28: fewestTips(1)", Rings.NO_INDEX, () -> x.fewestTips(1));
        due.refuses(x, "28: fewestTips(-1)", Rings.NO_INDEX, () -> x.fewestTips(-1));
    }

    private static void nearestTarget() {
        RingSeesaw x = Rings.of(0, 0, 0, 0);
        due.asks(x, "29: nearestTarget() without targets", -1, () -> x.nearestTarget());
        x.put(0, 1);
        x.keep();
        x.put(0, 0);
        due.asks(x, "29: nearestTarget() without one that can be reached", -1, () -> x.nearestTarget());
        x.tip(0, 5);
        x.keep();
        x.tip(0, -4);
        x.keep();
        x.tip(0, -2);
        x.keep();
        x.tip(0, 1);
        due.asks(x, "29: nearestTarget() of 5, 1 and 1 off", 2, () -> x.nearestTarget());
        x.tip(0, -1);
        due.is("29: nearestTarget() at it", 3, x.nearestTarget());
        x.tip(0, 5);
        due.is("29: nearestTarget() of 1, 3 and 5 off", 1, x.nearestTarget());
        RingSeesaw first = Rings.of(0, 0, 0);
        first.keep();
        first.tip(2, 4);
        first.keep();
        first.tip(2, -3);
        due.is("29: nearestTarget() of 1 and 3 off", 0, first.nearestTarget());
        first.tip(2, -1);
        due.is("29: nearestTarget() of 0 and 4 off", 0, first.nearestTarget());
    }
}
