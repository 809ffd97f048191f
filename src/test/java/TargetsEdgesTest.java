/** Promises 23 to 29, targets: a test for each sentence that names a boundary. */
public final class TargetsEdgesTest {
    private static final Due due = new Due();

    public static void main(String[] args) {
        numberInReturns();
        numberInThrows();
        differencesReturns();
        differencesThrows();
        canReachReturns();
        canReachThrows();
        reachable();
        tipsToReturns();
        tipsToThrowsIndex();
        tipsToThrowsState();
        fewestTipsReturns();
        fewestTipsAllOnceMore();
        fewestTipsNotReached();
        fewestTipsThrows();
        nearestTarget();
        nearestTargetWithoutAny();
        due.end();
    }

    private static void numberInReturns() {
        due.sentence("23", "Returns its number in the target.");
        for (int places = 3; places <= 12; places++) {
            int last = places - 1;
            RingSeesaw x = Rings.with(places, 0, 999);
            x.put(last, -999);
            x.tip(0, -50);
            x.keep();
            for (int target = 1; target < 6; target++) {
                x.put(0, target);
                x.put(last, -target);
                x.keep();
            }
            due.is("numberIn(0, 0) of " + places, 1099, x.numberIn(0, 0));
            due.asks(x, "numberIn(0, last) of " + places, -1049, () -> x.numberIn(0, last));
            due.is("numberIn(5, 0) of " + places, 5, x.numberIn(5, 0));
            due.asks(x, "numberIn(5, last) of " + places, -5, () -> x.numberIn(5, last));
        }
    }

    private static void numberInThrows() {
        due.sentence("23", "Throws IndexOutOfBoundsException if there is no such target or place");
        due.refusesNoTarget("numberIn(.., 0)", (x, target) -> x.numberIn(target, 0));
        due.refusesNoTarget("numberIn(.., 3)", (x, target) -> x.numberIn(target, 3));
        due.refusesNoTarget("numberIn(.., 4)", (x, target) -> x.numberIn(target, 4));
        due.refusesNoPlace("numberIn(0, ..)", (x, place) -> x.numberIn(0, place));
        due.refusesNoPlace("numberIn(1, ..)", (x, place) -> x.numberIn(1, place));
    }

    private static void differencesReturns() {
        due.sentence("24", "Returns in how many places the number is another one in it.");
        for (int places = 3; places <= 12; places++) {
            RingSeesaw x = Rings.level(places, 5);
            x.keep();
            due.asks(x, "differences(0) of none of " + places, 0, () -> x.differences(0));
            for (int place = 0; place < places; place++) {
                x.put(place, place % 2 == 0 ? 6 : 4);
                due.is("differences(0) up to the place " + place + " of " + places, place + 1, x.differences(0));
            }
            RingSeesaw last = Rings.with(places, places - 1, 1);
            last.keep();
            last.put(places - 1, 0);
            due.is("differences(0) of the last of " + places, 1, last.differences(0));
        }
        RingSeesaw six = Rings.withTargets(6);
        due.is("differences(5) of six", 0, six.differences(5));
        due.is("differences(0) of six", 4, six.differences(0));
    }

    private static void differencesThrows() {
        due.sentence("24", "Throws IndexOutOfBoundsException if there is no such target");
        due.refusesNoTarget("differences(..)", (x, target) -> x.differences(target));
    }

    private static void canReachReturns() {
        due.sentence("25", "Returns whether it can be reached.");
        for (int places = 3; places <= 12; places++) {
            String of = " of " + places;
            int last = places - 1;
            RingSeesaw x = Rings.with(places, 0, 0);
            x.keep();
            due.asks(x, "canReach(0) at it" + of, true, () -> x.canReach(0));
            x.put(last, 1);
            due.asks(x, "canReach(0) with 1 too many" + of, false, () -> x.canReach(0));
            x.put(last, -1);
            due.is("canReach(0) with 1 too few" + of, false, x.canReach(0));
            // The sum is the same, and the moment another one.
            x.put(0, 1);
            due.is("canReach(0) with 1 moved from the last to 0" + of, false, x.canReach(0));
            x.put(0, places);
            x.put(last, -places);
            due.is("canReach(0) with as many moved as there are places" + of, true, x.canReach(0));
            x.put(0, places + 1);
            x.put(last, -places - 1);
            due.is("canReach(0) with one more moved" + of, false, x.canReach(0));
            // The moment is the same, and the sum another one.
            x.put(last, 0);
            x.put(0, 1);
            due.is("canReach(0) with the moment alone" + of, false, x.canReach(0));
        }
        RingSeesaw six = Rings.withTargets(6);
        due.is("canReach(0) of six", false, six.canReach(0));
        due.is("canReach(5) of six", true, six.canReach(5));
    }

    private static void canReachThrows() {
        due.sentence("25", "Throws IndexOutOfBoundsException if there is no such target");
        due.refusesNoTarget("canReach(..)", (x, target) -> x.canReach(target));
    }

    private static void reachable() {
        due.sentence("26", "Returns how many targets can be reached.");
        due.is("reachable() without targets", 0, new RingSeesaw().reachable());
        RingSeesaw x = Rings.withTargets(6);
        due.asks(x, "reachable() of the sixth alone", 1, () -> x.reachable());
        x.put(3, 7);
        due.asks(x, "reachable() of none of six", 0, () -> x.reachable());
        RingSeesaw all = Rings.of(0, 0, 0);
        for (int target = 0; target < 6; target++) {
            all.keep();
            all.tip(2, 1);
        }
        due.asks(all, "reachable() of all six", 6, () -> all.reachable());
        all.lay(3);
        due.is("reachable() behind lay(3)", 0, all.reachable());
    }

    private static void tipsToReturns() {
        due.sentence("27", "Returns the tips of the place to the target.");
        for (int places = 3; places <= 12; places++) {
            int last = places - 1;
            RingSeesaw x = Rings.with(places, 0, 0);
            x.keep();
            due.is("the tips to itself, of " + places, Rings.row(new int[places]), Rings.tipsTo(x, 0));
            x.tip(last, 50);
            int[] want = new int[places];
            want[last] = -50;
            due.is("the tips of the last, of " + places, Rings.row(want), Rings.tipsTo(x, 0));
            x.tip(last, -50);
            x.tip(0, -50);
            due.asks(x, "tipsTo(0, 0) of " + places, 0, () -> x.tipsTo(0, 0));
            due.asks(x, "tipsTo(0, last) of " + places, -50, () -> x.tipsTo(0, last));
        }
        RingSeesaw far = Rings.of(999, 0, 0, 0, -999, 0, 0, 0, 0, 0, 0, 0);
        far.keep();
        Rings.write(far, 0, 0, 0, 0, 0);
        due.is("the tips to far", Rings.row(0, 666, 1332, 1998, 2664, 2331, 1998, 1665, 1332, 999, 666, 333),
                Rings.tipsTo(far, 0));
        RingSeesaw six = Rings.of(0, 0, 0, 0);
        for (int target = 0; target < 6; target++) {
            six.keep();
            six.tip(3, 1);
        }
        due.is("tipsTo(5, 3) of six", -1, six.tipsTo(5, 3));
        due.is("tipsTo(0, 3) of six", -6, six.tipsTo(0, 3));
    }

    private static void tipsToThrowsIndex() {
        due.sentence("27", "Throws IndexOutOfBoundsException if there is no such target or place");
        due.refusesNoTarget("tipsTo(.., 0)", (x, target) -> x.tipsTo(target, 0));
        due.refusesNoTarget("tipsTo(.., 4)", (x, target) -> x.tipsTo(target, 4));
        // Target 1 of a full ring can be reached.
        due.refusesNoPlace("tipsTo(1, ..)", (x, place) -> x.tipsTo(1, place));
    }

    private static void tipsToThrowsState() {
        due.sentence("27", "Throws IllegalStateException if it cannot be reached");
        due.refusesOnAll("tipsTo(0, 0)", Rings.NO_STATE, x -> x.tipsTo(0, 0));
        due.refusesOnAll("tipsTo(0, last)", Rings.NO_STATE, x -> x.tipsTo(0, x.places() - 1));
        RingSeesaw moment = Rings.of(0, 0, 0);
        moment.keep();
        Rings.write(moment, -1, 1, 0);
        due.refuses(moment, "tipsTo(0, 0) with the sum alone", Rings.NO_STATE, () -> moment.tipsTo(0, 0));
        RingSeesaw sum = Rings.of(0, 0, 0);
        sum.keep();
        sum.put(0, 1);
        due.refuses(sum, "tipsTo(0, 0) with the moment alone", Rings.NO_STATE, () -> sum.tipsTo(0, 0));
    }

    private static void fewestTipsReturns() {
        due.sentence("28", "Returns by how many tips at least, back or not, all places together, it is reached");
        for (int places = 3; places <= 12; places++) {
            RingSeesaw x = Rings.with(places, 0, 0);
            x.keep();
            due.asks(x, "fewestTips(0) at it, of " + places, 0, () -> x.fewestTips(0));
            x.tip(0, 50);
            due.asks(x, "fewestTips(0) of the place 0 of " + places, 50, () -> x.fewestTips(0));
            x.tip(places - 1, -1);
            due.asks(x, "fewestTips(0) of both ends of " + places, 51, () -> x.fewestTips(0));
            RingSeesaw sides = Rings.with(places, 0, 0);
            sides.keep();
            sides.tip(places - 1, 50);
            sides.tip(1, -50);
            due.asks(sides, "fewestTips(0) of both sides of the place 0 of " + places, 100,
                    () -> sides.fewestTips(0));
        }
        RingSeesaw far = Rings.of(999, 0, 0, 0, -999, 0, 0, 0, 0, 0, 0, 0);
        far.keep();
        Rings.write(far, 0, 0, 0, 0, 0);
        due.is("fewestTips(0) of far", 7992, far.fewestTips(0));
    }

    private static void fewestTipsAllOnceMore() {
        due.sentence("28", "all places tipped once more change nothing");
        for (int places = 3; places <= 12; places++) {
            RingSeesaw x = Rings.with(places, 0, 5);
            String before = Rings.numbers(x);
            x.keep();
            for (int tipped = 1; tipped <= places; tipped++) {
                x.tip(places - tipped, 1);
                due.is("fewestTips(0) of " + tipped + " tipped once, of " + places,
                        Math.min(tipped, places - tipped), x.fewestTips(0));
            }
            due.is("the numbers with all tipped once, of " + places, before, Rings.numbers(x));
            for (int place = 0; place < places; place++) {
                x.tip(place, -50);
            }
            due.is("fewestTips(0) with all tipped back 50 times, of " + places, 0, x.fewestTips(0));
        }
    }

    private static void fewestTipsNotReached() {
        due.sentence("28", "-1 if it cannot be reached");
        for (int places = 3; places <= 12; places++) {
            RingSeesaw x = Rings.full(places);
            due.asks(x, "fewestTips(0) of " + places, -1, () -> x.fewestTips(0));
            due.asks(x, "fewestTips(1) of " + places, 7, () -> x.fewestTips(1));
        }
        RingSeesaw moment = Rings.of(0, 0, 0);
        moment.keep();
        Rings.write(moment, -1, 1, 0);
        due.is("fewestTips(0) with the sum alone", -1, moment.fewestTips(0));
    }

    private static void fewestTipsThrows() {
        due.sentence("28", "Throws IndexOutOfBoundsException if there is no such target");
        due.refusesNoTarget("fewestTips(..)", (x, target) -> x.fewestTips(target));
    }

    private static void nearestTarget() {
        due.sentence("29", "Returns the target with the smallest fewestTips() of those that can be reached, "
                + "of several the smallest number");
        RingSeesaw x = Rings.of(0, 0, 0, 0);
        for (int target = 0; target < 6; target++) {
            x.keep();
            x.tip(3, 1);
        }
        due.asks(x, "nearestTarget(), the sixth 1 off", 5, () -> x.nearestTarget());
        x.tip(3, -6);
        due.asks(x, "nearestTarget() at the first", 0, () -> x.nearestTarget());
        x.tip(3, 3);
        due.asks(x, "nearestTarget() at the fourth", 3, () -> x.nearestTarget());
        RingSeesaw even = Rings.of(0, 0, 0, 0);
        even.tip(0, 1);
        even.keep();
        even.tip(0, -2);
        even.keep();
        even.tip(0, 1);
        due.asks(even, "nearestTarget() of two that are 1 off", 0, () -> even.nearestTarget());
        RingSeesaw likes = new RingSeesaw();
        for (int target = 0; target < 6; target++) {
            likes.keep();
        }
        due.asks(likes, "nearestTarget() of six likes", 0, () -> likes.nearestTarget());
        RingSeesaw sixth = Rings.withTargets(6);
        due.asks(sixth, "nearestTarget(), the sixth alone to be reached", 5, () -> sixth.nearestTarget());
        sixth.tip(0, 50);
        due.asks(sixth, "nearestTarget(), the sixth alone, from far", 5, () -> sixth.nearestTarget());
    }

    private static void nearestTargetWithoutAny() {
        due.sentence("29", "-1 without any");
        due.is("nearestTarget() without targets", -1, new RingSeesaw().nearestTarget());
        RingSeesaw six = Rings.withTargets(6);
        six.put(0, 7);
        due.asks(six, "nearestTarget() where none of six can be reached", -1, () -> six.nearestTarget());
        six.put(0, 6);
        six.lay(4);
        due.is("nearestTarget() behind lay(4)", -1, six.nearestTarget());
    }
}
