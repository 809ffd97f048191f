import java.util.Objects;
import java.util.function.BiFunction;
import java.util.function.Function;
import java.util.function.Supplier;

/** Compares answers with those that are due, prints each that differs, and ends the program by them. */
final class Due {
    private int checked = 0;
    private int wrong = 0;
    private String about = "";

    /** The document's sentence that what follows is due by; where is the number of its promise, or "Terms". */
    void sentence(String where, String words) {
        about = where + " \"" + words + "\": ";
    }

    void is(String what, Object want, Object got) {
        checked++;
        if (!Objects.equals(want, got)) {
            wrong++;
            System.out.println(about + what + " answered " + got + ", due is " + want);
        }
    }

    /** A question: its answer, and that nothing is changed by it. */
    void asks(RingSeesaw x, String what, Object want, Supplier<Object> call) {
        String before = Rings.state(x);
        is(what, want, call.get());
        is(what + ", the state behind it,", before, Rings.state(x));
    }

    /** A wrong input: the very exception, no kind of it, and that nothing is changed by it. */
    void refuses(RingSeesaw x, String what, Class<?> want, Supplier<Object> call) {
        String before = Rings.state(x);
        Object got;
        try {
            got = call.get();
        } catch (RuntimeException e) {
            got = e.getClass();
        }
        is(what, want, got);
        is(what + ", the state behind it,", before, Rings.state(x));
    }

    /** Refused on every size of ring, each time on a new one with much to lose. */
    void refusesOnAll(String what, Class<?> want, Function<RingSeesaw, Object> call) {
        for (int places = 3; places <= 12; places++) {
            RingSeesaw x = Rings.full(places);
            refuses(x, what + " of " + places, want, () -> call.apply(x));
        }
    }

    /** Every number that is no place, on every size of ring: the first one beyond on either side, and far ones. */
    void refusesNoPlace(String what, BiFunction<RingSeesaw, Integer, Object> call) {
        for (int places = 3; places <= 12; places++) {
            for (int place : new int[] {-1, places, places + 1, -places, Integer.MIN_VALUE, Integer.MAX_VALUE}) {
                RingSeesaw x = Rings.full(places);
                refuses(x, what + ", place " + place + " of " + places, Rings.NO_INDEX, () -> call.apply(x, place));
            }
        }
    }

    /** Every number that is no target, with none to six of them: the first one beyond on either side, and far ones. */
    void refusesNoTarget(String what, BiFunction<RingSeesaw, Integer, Object> call) {
        for (int targets = 0; targets <= 6; targets++) {
            for (int target : new int[] {-1, targets, targets + 1, 6, Integer.MIN_VALUE, Integer.MAX_VALUE}) {
                RingSeesaw x = Rings.withTargets(targets);
                refuses(x, what + ", target " + target + " of " + targets, Rings.NO_INDEX,
                        () -> call.apply(x, target));
            }
        }
    }

    void end() {
        if (checked == 0) {
            wrong++;
            System.out.println("nothing was checked");
        }
        System.out.println(checked + " checked, " + wrong + " wrong");
        if (wrong != 0) {
            System.exit(1);
        }
    }
}
