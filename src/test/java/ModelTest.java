import java.lang.reflect.InvocationTargetException;
import java.lang.reflect.Method;
import java.lang.reflect.Modifier;
import java.util.Arrays;
import java.util.Comparator;
import java.util.Random;

/** All promises: long runs of drawn calls, each answer against that of NaiveSeesaw. */
public final class ModelTest {
    private static final int RUNS = 400;
    private static final int CALLS = 512;
    private static final String[] CHANGING = {"put", "tip", "tip", "tip", "turn", "keep", "settle", "reach", "reach"};
    private static final Due due = new Due();

    public static void main(String[] args) throws ReflectiveOperationException {
        Method[] all = RingSeesaw.class.getDeclaredMethods();
        all = Arrays.stream(all).filter(m -> Modifier.isPublic(m.getModifiers()))
                .sorted(Comparator.comparing(Method::getName)).toArray(Method[]::new);
        // lay comes seldom, by itself: as often as the others it would clear away too soon what they build.
        Method[] asking = Arrays.stream(all).filter(m -> !m.getName().equals("lay")).toArray(Method[]::new);
        for (int run = 0; run < RUNS; run++) {
            run(run, asking);
        }
        due.end();
    }

    private static void run(int run, Method[] asking) throws ReflectiveOperationException {
        Random random = new Random(run);
        RingSeesaw x = new RingSeesaw();
        NaiveSeesaw y = new NaiveSeesaw();
        int size = 3 + run % 10;
        int wide = run % 3 == 0 ? 999 : run % 3 == 1 ? 40 : 3;
        int calls = 0;
        while (calls < CALLS) {
            Method method = asking[random.nextInt(asking.length)];
            if (calls == 0 || random.nextInt(150) == 0) {
                method = RingSeesaw.class.getMethod("lay", int.class);
            } else if (random.nextInt(3) == 0) {
                String name = CHANGING[random.nextInt(CHANGING.length)];
                method = Arrays.stream(asking).filter(m -> m.getName().equals(name)).findFirst().get();
            }
            Object[] given = calls == 0 ? new Object[] {size} : drawn(random, method, x.places(), wide);
            String call = "run " + run + ", call " + calls + ": " + method.getName() + Arrays.toString(given);
            due.is(call, answer(y, method, given), answer(x, method, given));
            // places() above is a call on the object too.
            calls += 2;
        }
    }

    private static Object[] drawn(Random random, Method method, int places, int wide) {
        String name = method.getName();
        Object[] given = new Object[method.getParameterCount()];
        for (int at = 0; at < given.length; at++) {
            given[at] = drawnOne(random, name, at, places, wide);
        }
        return given;
    }

    private static int drawnOne(Random random, String name, int at, int places, int wide) {
        if (random.nextInt(60) == 0) {
            int[] odd = {Integer.MIN_VALUE, Integer.MAX_VALUE, -1, 1000, -1000, 51, -51, 201, 0, 2, 13, 12, 6};
            return odd[random.nextInt(odd.length)];
        }
        if (name.equals("lay")) {
            return 3 + random.nextInt(10);
        }
        if (name.equals("settle")) {
            return 1 + random.nextInt(random.nextBoolean() ? 5 : 200);
        }
        if (name.equals("put") && at == 1 || name.equals("placeFor")) {
            return random.nextInt(2 * wide + 1) - wide;
        }
        if ((name.equals("tip") || name.equals("spreadWith")) && at == 1) {
            int most = random.nextBoolean() ? 3 : 50;
            return random.nextInt(2 * most + 1) - most;
        }
        boolean target = at == 0 && (name.equals("reach") || name.equals("numberIn") || name.equals("differences")
                || name.equals("canReach") || name.equals("tipsTo") || name.equals("fewestTips"));
        return random.nextInt(target ? 6 : places);
    }

    private static Object answer(Object object, Method method, Object[] given) throws ReflectiveOperationException {
        Method its = object.getClass().getDeclaredMethod(method.getName(), method.getParameterTypes());
        its.setAccessible(true);
        try {
            return its.invoke(object, given);
        } catch (InvocationTargetException e) {
            return e.getCause().getClass();
        }
    }
}
