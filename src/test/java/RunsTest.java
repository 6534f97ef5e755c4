import java.lang.reflect.InvocationTargetException;
import java.lang.reflect.Method;
import java.lang.reflect.Modifier;
import java.util.ArrayList;
import java.util.Arrays;
import java.util.Comparator;
import java.util.List;
import java.util.Random;

/** Long runs of calls of all promises together, each answer and all that is kept compared with the model's. */
public final class RunsTest {
    private static final int RUNS = 3000;
    // Each step is a call and a checksum. The document: "An object is used for at most 512 calls after it has been
    // made": the last of them is still looked at.
    private static final int STEPS = 256;
    private static final int PUTS_AHEAD = 8;
    private static final int[] EDGES = {-128, -127, -1, 0, 1, 126, 127, 128, Integer.MIN_VALUE, Integer.MAX_VALUE};

    private RunsTest() {
    }

    public static void main(String[] args) throws ReflectiveOperationException {
        List<Method> calls = calls();
        Check.same("the calls", calls.size(), 29);
        for (int run = 0; run < RUNS; run++) {
            run(run, calls, new Random(run));
        }
        Check.end(RunsTest.class);
    }

    /** The calls of the face, in an order that is always the same. */
    private static List<Method> calls() {
        List<Method> all = new ArrayList<>();
        for (Method method : Nearestclock.class.getDeclaredMethods()) {
            if (Modifier.isPublic(method.getModifiers())) {
                all.add(method);
            }
        }
        all.sort(Comparator.comparing(Method::getName));
        return all;
    }

    private static void run(int run, List<Method> calls, Random random) throws ReflectiveOperationException {
        Nearestclock clock = new Nearestclock();
        Model model = new Model();
        Method put = Nearestclock.class.getMethod("put", int.class, int.class);
        for (int step = 0; step < STEPS; step++) {
            Method call = step < PUTS_AHEAD ? put : calls.get(random.nextInt(calls.size()));
            Method ofModel = Model.class.getDeclaredMethod(call.getName(), call.getParameterTypes());
            Object[] with = arguments(call, random);
            String what = "run " + run + " step " + step + " " + call.getName() + Arrays.toString(with);
            String got = answer(call, clock, with);
            String due = answer(ofModel, model, with);
            Check.isTrue(what + " answered " + got + ", due is " + due, got.equals(due));
            Check.same(what + ": the checksum after it", clock.checksum(), model.checksum());
        }
    }

    private static Object[] arguments(Method call, Random random) {
        Object[] all = new Object[call.getParameterCount()];
        for (int at = 0; at < all.length; at++) {
            all[at] = place(random);
        }
        switch (call.getName()) {
            case "put": all[1] = whole(random, -127, 127); break;
            case "many": all[1] = whole(random, -1000000000, 1000000000); break;
            case "power": all[2] = whole(random, -5, 1005); break;
            case "digit": case "above": case "below": all[0] = whole(random, -1, 7); break;
            default: break;
        }
        return all;
    }

    /** Rarely a place that is not there. */
    private static int place(Random random) {
        return random.nextInt(30) == 0 ? (random.nextBoolean() ? -1 : 12) : random.nextInt(12);
    }

    private static int whole(Random random, int least, int most) {
        boolean isEdge = random.nextInt(12) == 0;
        return isEdge ? EDGES[random.nextInt(EDGES.length)] : least + random.nextInt(most - least + 1);
    }

    /** A double's text tells the 0s apart. */
    private static String answer(Method call, Object on, Object[] with) throws IllegalAccessException {
        try {
            return call.invoke(on, with).toString();
        } catch (InvocationTargetException e) {
            return e.getCause().getClass().getSimpleName();
        }
    }
}
