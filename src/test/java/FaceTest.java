import java.lang.reflect.Constructor;
import java.lang.reflect.Field;
import java.lang.reflect.Method;
import java.lang.reflect.Modifier;
import java.util.Arrays;
import java.util.Set;
import java.util.TreeSet;
import java.util.stream.Collectors;

/** The public face, to the letter, and LANGUAGE.md's rule 1 on what else may be seen. */
public final class FaceTest {
    private static final String[] FACE = {
        "int lay(int) IllegalArgumentException",
        "int put(int, int) IndexOutOfBoundsException, IllegalArgumentException",
        "int tip(int, int) IndexOutOfBoundsException, IllegalArgumentException",
        "int turn() ",
        "int keep() IllegalStateException",
        "int settle(int) IllegalArgumentException",
        "int reach(int) IndexOutOfBoundsException, IllegalStateException",
        "int places() ",
        "int numberAt(int) IndexOutOfBoundsException",
        "int targets() ",
        "int tips() ",
        "int sum() ",
        "int moment() ",
        "int spread() ",
        "int highest() ",
        "boolean isSteep(int) IndexOutOfBoundsException",
        "int steepPlaces() ",
        "int nextToTip() ",
        "int tilt(int) IndexOutOfBoundsException",
        "int levelAxes() ",
        "int bestAxis() ",
        "int numberIn(int, int) IndexOutOfBoundsException",
        "int differences(int) IndexOutOfBoundsException",
        "boolean canReach(int) IndexOutOfBoundsException",
        "int reachable() ",
        "int tipsTo(int, int) IndexOutOfBoundsException, IllegalStateException",
        "int fewestTips(int) IndexOutOfBoundsException",
        "int nearestTarget() ",
        "int stepsToRest() ",
        "int spreadAtRest() ",
        "int spreadWith(int, int) IndexOutOfBoundsException, IllegalArgumentException",
        "int bestPlace() ",
        "int placeFor(int) IllegalArgumentException",
        "double meanNumber() ",
        "long digest() "};
    private static final Due due = new Due();

    public static void main(String[] args) {
        due.is("the class is public and final", Modifier.PUBLIC | Modifier.FINAL, RingSeesaw.class.getModifiers());
        constructors();
        methods();
        fields();
        due.end();
    }

    private static void constructors() {
        Constructor<?>[] all = RingSeesaw.class.getDeclaredConstructors();
        due.is("constructors", 1, all.length);
        due.is("the constructor's modifiers", Modifier.PUBLIC, all[0].getModifiers());
        due.is("the constructor's parameters", 0, all[0].getParameterCount());
    }

    private static void methods() {
        Set<String> open = new TreeSet<>();
        Set<String> openNames = new TreeSet<>();
        Set<String> closedNames = new TreeSet<>();
        for (Method method : RingSeesaw.class.getDeclaredMethods()) {
            if (Modifier.isPrivate(method.getModifiers())) {
                closedNames.add(method.getName());
            } else {
                due.is(method.getName() + " is public alone", Modifier.PUBLIC, method.getModifiers());
                open.add(written(method));
                openNames.add(method.getName());
            }
        }
        due.is("the methods", new TreeSet<>(Arrays.asList(FACE)), open);
        closedNames.retainAll(openNames);
        due.is("private methods with public names", Set.of(), closedNames);
    }

    private static void fields() {
        for (Field field : RingSeesaw.class.getDeclaredFields()) {
            int modifiers = field.getModifiers();
            due.is(field.getName() + " is private", true, Modifier.isPrivate(modifiers));
            due.is(field.getName() + ", if static, is final", true,
                    !Modifier.isStatic(modifiers) || Modifier.isFinal(modifiers));
        }
    }

    private static String written(Method method) {
        return method.getReturnType().getSimpleName() + " " + method.getName()
                + "(" + names(method.getParameterTypes()) + ") " + names(method.getExceptionTypes());
    }

    private static String names(Class<?>[] types) {
        return Arrays.stream(types).map(Class::getSimpleName).collect(Collectors.joining(", "));
    }
}
