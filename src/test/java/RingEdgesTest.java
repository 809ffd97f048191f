/** Promises 1 to 8, the ring: a test for each sentence that names a boundary. */
public final class RingEdgesTest {
    private static final Due due = new Due();

    public static void main(String[] args) {
        newObject();
        layAnother();
        layReturns();
        layThrows();
        putFromNowOn();
        putReturns();
        putThrowsIndex();
        putThrowsArgument();
        tipAPlace();
        tipTimes();
        tipReturns();
        tipThrowsIndex();
        tipThrowsArgument();
        turnTheRing();
        turnReturns();
        keepATarget();
        keepReturns();
        keepThrows();
        settleInEachStep();
        settleSteps();
        settleReturns();
        settleThrows();
        reachTarget();
        reachReturns();
        reachThrowsIndex();
        reachThrowsState();
        due.end();
    }

    private static void newObject() {
        due.sentence("1", "Creates a ring of 6 places with 0 each, without targets.");
        RingSeesaw x = new RingSeesaw();
        due.is("places()", 6, x.places());
        due.is("the numbers", Rings.row(0, 0, 0, 0, 0, 0), Rings.numbers(x));
        due.refuses(x, "numberAt(6)", Rings.NO_INDEX, () -> x.numberAt(6));
        due.is("targets()", 0, x.targets());
        due.refuses(x, "numberIn(0, 0)", Rings.NO_INDEX, () -> x.numberIn(0, 0));
        due.is("keep() of the first one", 0, x.keep());
        RingSeesaw second = new RingSeesaw();
        due.is("targets() of another object", 0, second.targets());
    }

    private static void layAnother() {
        due.sentence("2", "Lays another ring: all numbers are 0, and targets are gone; counts stay.");
        for (int before = 3; before <= 12; before++) {
            for (int places : new int[] {3, before, 12}) {
                RingSeesaw x = Rings.full(before);
                x.lay(places);
                String what = " behind lay(" + places + ") of " + before;
                due.is("places()" + what, places, x.places());
                due.is("the numbers" + what, Rings.row(new int[places]), Rings.numbers(x));
                due.is("targets()" + what, 0, x.targets());
                due.is("tips()" + what, 7, x.tips());
                due.refuses(x, "canReach(0)" + what, Rings.NO_INDEX, () -> x.canReach(0));
                x.lay(12);
                due.is("the numbers behind lay(12)" + what, Rings.row(new int[12]), Rings.numbers(x));
            }
        }
        RingSeesaw six = Rings.withTargets(6);
        six.lay(4);
        due.is("targets() where there were 6", 0, six.targets());
        due.is("keep() where there were 6", 0, six.keep());
    }

    private static void layReturns() {
        due.sentence("2", "Returns how many there were.");
        RingSeesaw x = new RingSeesaw();
        due.is("lay(3) at first", 6, x.lay(3));
        due.is("lay(3) again", 3, x.lay(3));
        due.is("lay(12)", 3, x.lay(12));
        due.is("lay(12) again", 12, x.lay(12));
        due.is("lay(3) of 12", 12, x.lay(3));
    }

    private static void layThrows() {
        due.sentence("2", "Throws IllegalArgumentException if places is not 3 to 12");
        for (int wrong : new int[] {2, 13, 1, 0, -1, -3, -12, Integer.MIN_VALUE, Integer.MAX_VALUE}) {
            due.refusesOnAll("lay(" + wrong + ")", Rings.NO_ARGUMENT, x -> x.lay(wrong));
        }
        for (int places = 3; places <= 12; places++) {
            RingSeesaw x = new RingSeesaw();
            due.is("lay(" + places + ")", 6, x.lay(places));
            due.is("places() then", places, x.places());
        }
    }

    private static void putFromNowOn() {
        due.sentence("3", "number: its number from now on");
        for (int places = 3; places <= 12; places++) {
            int[] numbers = new int[places];
            RingSeesaw x = Rings.with(places, 0, 999);
            numbers[0] = 999;
            due.is("the numbers behind put(0, 999)", Rings.row(numbers), Rings.numbers(x));
            x.put(places - 1, -999);
            numbers[places - 1] = -999;
            due.is("the numbers behind put(" + (places - 1) + ", -999)", Rings.row(numbers), Rings.numbers(x));
            x.put(0, 0);
            numbers[0] = 0;
            due.is("the numbers behind put(0, 0)", Rings.row(numbers), Rings.numbers(x));
        }
    }

    private static void putReturns() {
        due.sentence("3", "Returns the one before.");
        RingSeesaw x = new RingSeesaw();
        due.is("put(0, 999) at first", 0, x.put(0, 999));
        due.is("put(0, -999) behind 999", 999, x.put(0, -999));
        due.is("put(0, -999) behind -999", -999, x.put(0, -999));
        x.tip(0, 1);
        due.is("put(0, 5) below -999", -1001, x.put(0, 5));
        x.put(5, 999);
        x.tip(5, -1);
        due.is("put(5, 5) above 999", 1001, x.put(5, 5));
        due.is("put(0, 0) beside it", 4, x.put(0, 0));
    }

    private static void putThrowsIndex() {
        due.sentence("3", "Throws IndexOutOfBoundsException if there is no such place");
        due.refusesNoPlace("put(.., 7)", (x, place) -> x.put(place, 7));
    }

    private static void putThrowsArgument() {
        due.sentence("3", "Throws IllegalArgumentException if number is not -999 to 999");
        for (int wrong : new int[] {1000, -1000, 1001, Integer.MIN_VALUE, Integer.MAX_VALUE}) {
            due.refusesOnAll("put(0, " + wrong + ")", Rings.NO_ARGUMENT, x -> x.put(0, wrong));
            due.refusesOnAll("put(last, " + wrong + ")", Rings.NO_ARGUMENT, x -> x.put(x.places() - 1, wrong));
        }
        for (int number : new int[] {999, -999, 998, -998, 0}) {
            due.is("numberAt(2) behind put(2, " + number + ")", number, Rings.with(3, 2, number).numberAt(2));
        }
    }

    private static void tipAPlace() {
        due.sentence("4", "Tips a place.");
        RingSeesaw x = Rings.of(10, 20, 30, 40);
        x.tip(0, 1);
        due.is("the numbers behind tip(0, 1)", Rings.row(8, 21, 30, 41), Rings.numbers(x));
        x.tip(3, 1);
        due.is("the numbers behind tip(3, 1)", Rings.row(9, 21, 31, 39), Rings.numbers(x));
        RingSeesaw three = Rings.of(10, 20, 30);
        three.tip(1, 1);
        due.is("the numbers of 3 behind tip(1, 1)", Rings.row(11, 18, 31), Rings.numbers(three));
        RingSeesaw twelve = Rings.of(0, 0, 0, 0, 0, 0, 0, 0, 0, 0, 0, 0);
        twelve.tip(11, 1);
        due.is("the numbers of 12 behind tip(11, 1)", Rings.row(1, 0, 0, 0, 0, 0, 0, 0, 0, 0, 1, -2),
                Rings.numbers(twelve));
    }

    private static void tipTimes() {
        due.sentence("4", "times: how often; less than 0: back");
        for (int times : new int[] {-50, -49, -1, 0, 1, 49, 50}) {
            RingSeesaw x = Rings.of(0, 0, 0, 0, 0);
            x.tip(0, times);
            due.is("the numbers behind tip(0, " + times + ")", Rings.row(-2 * times, times, 0, 0, times),
                    Rings.numbers(x));
            x.tip(0, -times);
            due.is("the numbers behind that and back", Rings.row(0, 0, 0, 0, 0), Rings.numbers(x));
        }
    }

    private static void tipReturns() {
        due.sentence("4", "Returns its number then.");
        RingSeesaw x = Rings.of(999, 0, 0, 0, 0, -999);
        due.is("tip(0, 0)", 999, x.tip(0, 0));
        due.is("tip(0, -50)", 1099, x.tip(0, -50));
        due.is("tip(5, 50)", -1149, x.tip(5, 50));
        due.is("tip(0, 50)", 1049, x.tip(0, 50));
    }

    private static void tipThrowsIndex() {
        due.sentence("4", "Throws IndexOutOfBoundsException if there is no such place");
        due.refusesNoPlace("tip(.., 1)", (x, place) -> x.tip(place, 1));
        due.refusesNoPlace("tip(.., 0)", (x, place) -> x.tip(place, 0));
    }

    private static void tipThrowsArgument() {
        due.sentence("4", "Throws IllegalArgumentException if times is not -50 to 50");
        for (int wrong : new int[] {51, -51, 52, 100, Integer.MIN_VALUE, Integer.MAX_VALUE}) {
            due.refusesOnAll("tip(0, " + wrong + ")", Rings.NO_ARGUMENT, x -> x.tip(0, wrong));
            due.refusesOnAll("tip(last, " + wrong + ")", Rings.NO_ARGUMENT, x -> x.tip(x.places() - 1, wrong));
        }
        due.is("tip(0, 50)", -100, new RingSeesaw().tip(0, 50));
        due.is("tip(0, -50)", 100, new RingSeesaw().tip(0, -50));
    }

    private static void turnTheRing() {
        due.sentence("5", "Turns the ring: each number goes to the next place.");
        for (int places = 3; places <= 12; places++) {
            int[] numbers = new int[places];
            int[] turned = new int[places];
            for (int place = 0; place < places; place++) {
                numbers[place] = 10 + place;
                turned[place] = place == 0 ? 10 + places - 1 : 10 + place - 1;
            }
            RingSeesaw x = Rings.of(numbers);
            x.turn();
            due.is("the numbers of " + places + " behind turn()", Rings.row(turned), Rings.numbers(x));
            for (int more = 1; more < places; more++) {
                x.turn();
            }
            due.is("the numbers of " + places + " once round", Rings.row(numbers), Rings.numbers(x));
        }
    }

    private static void turnReturns() {
        due.sentence("5", "Returns the number of the place 0 then.");
        RingSeesaw x = Rings.of(1, -2, 999);
        due.is("turn()", 999, x.turn());
        due.is("turn() again", -2, x.turn());
        due.is("turn() a third time", 1, x.turn());
        due.is("turn() of 12", 7, Rings.with(12, 11, 7).turn());
        due.is("turn() at first", 0, new RingSeesaw().turn());
    }

    private static void keepATarget() {
        due.sentence("6", "Keeps a target.");
        RingSeesaw x = Rings.withTargets(6);
        Rings.write(x, -1, -2, -3, -4);
        x.tip(3, 50);
        x.turn();
        for (int target = 0; target < 6; target++) {
            int all = target + 1;
            due.is("target " + target, Rings.row(all, all, all, all), Rings.target(x, target));
        }
        RingSeesaw beyond = Rings.of(999, -999, 0);
        beyond.tip(0, -50);
        beyond.keep();
        due.is("a target beyond 999", Rings.row(1099, -1049, -50), Rings.target(beyond, 0));
    }

    private static void keepReturns() {
        due.sentence("6", "Returns its number.");
        RingSeesaw x = new RingSeesaw();
        for (int target = 0; target < 6; target++) {
            due.is("keep()", target, x.keep());
            due.is("targets() then", target + 1, x.targets());
        }
        x.lay(6);
        due.is("keep() behind lay(6)", 0, x.keep());
    }

    private static void keepThrows() {
        due.sentence("6", "Throws IllegalStateException if there are 6");
        RingSeesaw five = Rings.withTargets(5);
        due.is("keep() of 5", 5, five.keep());
        due.refuses(five, "keep() of 6", Rings.NO_STATE, () -> five.keep());
        RingSeesaw six = Rings.withTargets(6);
        six.put(0, 77);
        due.refuses(six, "keep() of 6 others", Rings.NO_STATE, () -> six.keep());
        due.refuses(six, "keep() again", Rings.NO_STATE, () -> six.keep());
        six.lay(3);
        due.is("keep() behind lay(3)", 0, six.keep());
    }

    private static void settleInEachStep() {
        due.sentence("7", "Lets steep places tip: in each step the first one of them, by places from 0 on, once; "
                + "none, if there is none.");
        RingSeesaw ends = Rings.of(9, 0, 0, 0, 9);
        ends.settle(1);
        due.is("the place 0 before the last one", Rings.row(7, 1, 0, 0, 10), Rings.numbers(ends));
        RingSeesaw last = Rings.of(0, 0, 0, 0, 2);
        last.settle(1);
        due.is("the last one alone", Rings.row(1, 0, 0, 1, 0), Rings.numbers(last));
        RingSeesaw first = Rings.of(2, 0, 0, 0, 0);
        first.settle(1);
        due.is("the place 0 alone, once", Rings.row(0, 1, 0, 0, 1), Rings.numbers(first));
        // The place 2 is steep only when the place 3 has tipped, and comes before the place 5 then.
        RingSeesaw order = Rings.of(0, 0, 3, 4, 0, 9, 0, 0);
        order.settle(2);
        due.is("two steps", Rings.row(0, 1, 2, 3, 1, 9, 0, 0), Rings.numbers(order));
        order.settle(1);
        due.is("the third step", Rings.row(0, 1, 2, 3, 2, 7, 1, 0), Rings.numbers(order));
        RingSeesaw none = Rings.of(1, 0, 0, 1);
        none.settle(200);
        due.is("none, if there is none", Rings.row(1, 0, 0, 1), Rings.numbers(none));
        due.is("tips() if there is none", 0, none.tips());
    }

    private static void settleSteps() {
        due.sentence("7", "steps: how many steps");
        RingSeesaw one = Rings.of(999, 0, 0);
        one.settle(1);
        due.is("the numbers behind settle(1)", Rings.row(997, 1, 1), Rings.numbers(one));
        due.is("tips() behind settle(1)", 1, one.tips());
        RingSeesaw most = Rings.of(999, 0, 0);
        RingSeesaw apart = Rings.of(999, 0, 0);
        most.settle(200);
        for (int step = 0; step < 200; step++) {
            apart.settle(1);
        }
        due.is("the numbers behind settle(200)", Rings.numbers(apart), Rings.numbers(most));
        due.is("tips() behind settle(200)", 200, most.tips());
    }

    private static void settleReturns() {
        due.sentence("7", "Returns how many places tip in them.");
        due.is("settle(1) at rest", 0, new RingSeesaw().settle(1));
        due.is("settle(200) at rest", 0, new RingSeesaw().settle(200));
        due.is("settle(1)", 1, Rings.of(2, 0, 0, 0).settle(1));
        due.is("settle(200) where one tips", 1, Rings.of(2, 0, 0, 0).settle(200));
        due.is("settle(12) of 13", 12, Rings.of(20, 0, 0, 0, 0).settle(12));
        due.is("settle(13) of 13", 13, Rings.of(20, 0, 0, 0, 0).settle(13));
        due.is("settle(14) of 13", 13, Rings.of(20, 0, 0, 0, 0).settle(14));
        RingSeesaw x = Rings.of(901, 0, 0);
        due.is("settle(200) of 300", 200, x.settle(200));
        due.is("settle(200) of 100", 100, x.settle(200));
        due.is("settle(200) of none", 0, x.settle(200));
        due.is("tips() of all these", 300, x.tips());
    }

    private static void settleThrows() {
        due.sentence("7", "Throws IllegalArgumentException if steps is not 1 to 200");
        for (int wrong : new int[] {0, 201, -1, 202, -200, Integer.MIN_VALUE, Integer.MAX_VALUE}) {
            due.refusesOnAll("settle(" + wrong + ")", Rings.NO_ARGUMENT, x -> x.settle(wrong));
            RingSeesaw rest = new RingSeesaw();
            due.refuses(rest, "settle(" + wrong + ") at rest", Rings.NO_ARGUMENT, () -> rest.settle(wrong));
        }
        due.is("settle(1)", 1, Rings.of(999, 0, 0).settle(1));
        due.is("settle(200)", 200, Rings.of(999, 0, 0).settle(200));
    }

    private static void reachTarget() {
        due.sentence("8", "Tips places so that all numbers are those of a target.");
        for (int places = 3; places <= 12; places++) {
            RingSeesaw x = Rings.full(places);
            String want = Rings.target(x, 1);
            x.tip(places - 1, 9);
            x.reach(1);
            due.is("the numbers of " + places, want, Rings.numbers(x));
            due.is("the target of " + places + " stays", want, Rings.target(x, 1));
        }
        RingSeesaw six = Rings.of(0, 0, 0, 0);
        for (int target = 0; target < 6; target++) {
            six.keep();
            six.tip(3, 1);
        }
        six.reach(5);
        due.is("the sixth one", Rings.row(5, 0, 5, -10), Rings.numbers(six));
        six.reach(0);
        due.is("the first one", Rings.row(0, 0, 0, 0), Rings.numbers(six));
        six.put(0, 1);
        due.is("the first one stays behind a put", Rings.row(0, 0, 0, 0), Rings.target(six, 0));
    }

    private static void reachReturns() {
        due.sentence("8", "Returns how many tips are done, back or not: fewestTips() of it.");
        RingSeesaw x = Rings.of(999, 0, 0, 0, -999, 0, 0, 0, 0, 0, 0, 0);
        x.keep();
        due.is("reach(0) at it", 0, x.reach(0));
        due.is("tips() at it", 0, x.tips());
        Rings.write(x, 0, 0, 0, 0, 0);
        x.keep();
        due.is("reach(0) from far", 7992, x.reach(0));
        due.is("tips() then", 7992, x.tips());
        due.is("fewestTips(1) the way back", 7992, x.fewestTips(1));
        due.is("reach(1) the way back", 7992, x.reach(1));
        due.is("tips() of both", 15984, x.tips());
        x.tip(11, -50);
        due.is("reach(1) of tips back", 50, x.reach(1));
    }

    private static void reachThrowsIndex() {
        due.sentence("8", "Throws IndexOutOfBoundsException if there is no such target");
        due.refusesNoTarget("reach(..)", (x, target) -> x.reach(target));
    }

    private static void reachThrowsState() {
        due.sentence("8", "Throws IllegalStateException if it cannot be reached");
        due.refusesOnAll("reach(0)", Rings.NO_STATE, x -> x.reach(0));
        for (int target = 0; target < 5; target++) {
            int other = target;
            RingSeesaw x = Rings.withTargets(6);
            due.refuses(x, "reach(" + target + ") of six", Rings.NO_STATE, () -> x.reach(other));
        }
        RingSeesaw moment = Rings.of(0, 0, 0);
        moment.keep();
        Rings.write(moment, -1, 1, 0);
        due.refuses(moment, "reach(0) with the sum alone", Rings.NO_STATE, () -> moment.reach(0));
    }
}
