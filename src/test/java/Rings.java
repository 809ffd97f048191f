import java.util.Arrays;

/** What the tests make of a RingSeesaw and see of it. */
final class Rings {
    static final Class<?> NO_INDEX = IndexOutOfBoundsException.class;
    static final Class<?> NO_ARGUMENT = IllegalArgumentException.class;
    static final Class<?> NO_STATE = IllegalStateException.class;

    private Rings() {
    }

    static RingSeesaw of(int... numbers) {
        RingSeesaw x = new RingSeesaw();
        x.lay(numbers.length);
        write(x, numbers);
        return x;
    }

    /** A ring with this number at one place, and 0 at all others. */
    static RingSeesaw with(int places, int place, int number) {
        RingSeesaw x = new RingSeesaw();
        x.lay(places);
        x.put(place, number);
        return x;
    }

    /** A ring with this number at each place. */
    static RingSeesaw level(int places, int number) {
        int[] numbers = new int[places];
        Arrays.fill(numbers, number);
        return of(numbers);
    }

    /** A ring with much to lose: no number is 0, target 0 cannot be reached, target 1 can, and tips are done. */
    static RingSeesaw full(int places) {
        RingSeesaw x = level(places, 11);
        x.put(1, 500);
        x.keep();
        x.put(1, -5);
        x.keep();
        x.tip(0, 3);
        x.tip(2, -4);
        return x;
    }

    /** A ring of 4 with so many targets; target t is all t + 1, and the ring is as the last one. */
    static RingSeesaw withTargets(int targets) {
        RingSeesaw x = level(4, 9);
        for (int target = 0; target < targets; target++) {
            write(x, target + 1, target + 1, target + 1, target + 1);
            x.keep();
        }
        return x;
    }

    static void write(RingSeesaw x, int... numbers) {
        for (int place = 0; place < numbers.length; place++) {
            x.put(place, numbers[place]);
        }
    }

    static String row(int... numbers) {
        return Arrays.toString(numbers);
    }

    static String numbers(RingSeesaw x) {
        int[] numbers = new int[x.places()];
        for (int place = 0; place < numbers.length; place++) {
            numbers[place] = x.numberAt(place);
        }
        return row(numbers);
    }

    static String target(RingSeesaw x, int target) {
        int[] numbers = new int[x.places()];
        for (int place = 0; place < numbers.length; place++) {
            numbers[place] = x.numberIn(target, place);
        }
        return row(numbers);
    }

    static String tipsTo(RingSeesaw x, int target) {
        int[] tips = new int[x.places()];
        for (int place = 0; place < tips.length; place++) {
            tips[place] = x.tipsTo(target, place);
        }
        return row(tips);
    }

    /** All that a call could change. */
    static String state(RingSeesaw x) {
        StringBuilder text = new StringBuilder(numbers(x)).append(" tips ").append(x.tips());
        for (int target = 0; target < x.targets(); target++) {
            text.append(" target ").append(target(x, target));
        }
        return text.toString();
    }
}
