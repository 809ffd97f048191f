import java.util.Objects;
import java.util.function.Supplier;

/** Compares answers with those that are due, prints each that differs, and ends the program by them. */
final class Due {
    private int checked = 0;
    private int wrong = 0;

    void is(String what, Object want, Object got) {
        checked++;
        if (!Objects.equals(want, got)) {
            wrong++;
            System.out.println(what + " answered " + got + ", due is " + want);
        }
    }

    /** A question: its answer, and that nothing is changed by it. */
    void asks(RingSeesaw x, String what, Object want, Supplier<Object> call) {
        String before = Rings.state(x);
        is(what, want, call.get());
        is(what + ", the state behind it,", before, Rings.state(x));
    }

    /** A wrong input: the very exception, no kind of it, and that nothing is changed by it. */
    void refuses(RingSeesaw x, String what, Class<?> want, Supplier<Object> call) {
        String before = Rings.state(x);
        Object got;
        try {
            got = call.get();
        } catch (RuntimeException e) {
            got = e.getClass();
        }
        is(what, want, got);
        is(what + ", the state behind it,", before, Rings.state(x));
    }

    void end() {
        if (checked == 0) {
            wrong++;
            System.out.println("nothing was checked");
        }
        System.out.println(checked + " checked, " + wrong + " wrong");
        if (wrong != 0) {
            System.exit(1);
        }
    }
}
