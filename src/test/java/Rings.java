import java.util.Arrays;

/** What the tests make of a RingSeesaw and see of it. */
final class Rings {
    static final Class<?> NO_INDEX = IndexOutOfBoundsException.class;
    static final Class<?> NO_ARGUMENT = IllegalArgumentException.class;
    static final Class<?> NO_STATE = IllegalStateException.class;

    private Rings() {
    }

    static RingSeesaw of(int... numbers) {
        RingSeesaw x = new RingSeesaw();
        x.lay(numbers.length);
        write(x, numbers);
        return x;
    }

    static void write(RingSeesaw x, int... numbers) {
        for (int place = 0; place < numbers.length; place++) {
            x.put(place, numbers[place]);
        }
    }

    static String row(int... numbers) {
        return Arrays.toString(numbers);
    }

    static String numbers(RingSeesaw x) {
        int[] numbers = new int[x.places()];
        for (int place = 0; place < numbers.length; place++) {
            numbers[place] = x.numberAt(place);
        }
        return row(numbers);
    }

    static String target(RingSeesaw x, int target) {
        int[] numbers = new int[x.places()];
        for (int place = 0; place < numbers.length; place++) {
            numbers[place] = x.numberIn(target, place);
        }
        return row(numbers);
    }

    static String tipsTo(RingSeesaw x, int target) {
        int[] tips = new int[x.places()];
        for (int place = 0; place < tips.length; place++) {
            tips[place] = x.tipsTo(target, place);
        }
        return row(tips);
    }

    /** All that a call could change. */
    static String state(RingSeesaw x) {
        StringBuilder text = new StringBuilder(numbers(x)).append(" tips ").append(x.tips());
        for (int target = 0; target < x.targets(); target++) {
            text.append(" target ").append(target(x, target));
        }
        return text.toString();
    }
}
