import java.util.Random;
import java.util.function.LongSupplier;

/** Long runs of calls of all promises together, each answer and all that is kept compared with the model's. */
public final class RunsTest {
    private static final int RUNS = 3000;
    // Each step is a call and a checksum: an object's answers are promised for 512 calls.
    private static final int STEPS = 256;
    private static final int CALLS = 29;
    private static final int[] EDGES = {-128, -127, -1, 0, 1, 126, 127, 128, Integer.MIN_VALUE, Integer.MAX_VALUE};

    private RunsTest() {
    }

    public static void main(String[] args) {
        for (int run = 0; run < RUNS; run++) {
            run(run, new Random(run));
        }
        Check.end(RunsTest.class);
    }

    private static void run(int run, Random random) {
        Nearestclock clock = new Nearestclock();
        Model model = new Model();
        for (int step = 0; step < STEPS; step++) {
            int call = step < 8 ? 0 : random.nextInt(CALLS);
            int[] p = new int[] {place(random), place(random), place(random), place(random)};
            int whole = whole(call, random);
            String what = "run " + run + " step " + step + " call " + call;
            String got = answer(() -> of(clock, call, p, whole));
            String due = answer(() -> due(model, call, p, whole));
            Check.isTrue(what + " answered " + got + ", due is " + due, got.equals(due));
            Check.same(what + ": checksum after it", clock.checksum(), model.checksum());
        }
    }

    /** Rarely a place that is not there. */
    private static int place(Random random) {
        return random.nextInt(30) == 0 ? (random.nextBoolean() ? -1 : 12) : random.nextInt(12);
    }

    private static int whole(int call, Random random) {
        if (random.nextInt(12) == 0) {
            return EDGES[random.nextInt(EDGES.length)];
        }
        switch (call) {
            case 0: return random.nextInt(255) - 127;
            case 14: return random.nextInt();
            case 16: return random.nextInt(1010) - 5;
            default: return random.nextInt(9) - 1;
        }
    }

    private static String answer(LongSupplier call) {
        try {
            return Long.toString(call.getAsLong());
        } catch (RuntimeException e) {
            return nameOf(e);
        }
    }

    // The model's list throws a class below the one that is due.
    private static String nameOf(RuntimeException e) {
        boolean isIndex = e instanceof IndexOutOfBoundsException;
        return isIndex ? "IndexOutOfBoundsException" : e.getClass().getSimpleName();
    }

    private static long of(Nearestclock c, int call, int[] p, int whole) {
        switch (call) {
            case 0: return c.put(p[0], whole);
            case 1: return c.putBelow(p[0]);
            case 2: return c.turn(p[0]);
            case 3: return c.eighths(p[0]);
            case 4: return c.bits(p[0]);
            case 5: return c.rest(p[0], p[1], p[2]);
            case 6: return c.restToo(p[0], p[1], p[2]);
            case 7: return c.times(p[0], p[1]);
            case 8: return c.isHalf(p[0], p[1]) ? 1 : 0;
            case 9: return c.cut(p[0], p[1], p[2]);
            case 10: return c.apart(p[0], p[1]);
            case 11: return c.residue(p[0], p[1], p[2]);
            case 12: return c.plus(p[0], p[1], p[2], p[3]);
            case 13: return c.minus(p[0], p[1], p[2], p[3]);
            case 14: return c.many(p[0], whole, p[1], p[2]);
            case 15: return c.product(p[0], p[1], p[2], p[3]);
            case 16: return c.power(p[0], p[1], whole, p[2]);
            case 17: return c.inverse(p[0], p[1], p[2]);
            case 18: return c.order(p[0], p[1]);
            case 19: return c.measure(p[0], p[1], p[2]);
            case 20: return c.steps(p[0], p[1]);
            case 21: return c.digits(p[0], p[1]);
            case 22: return c.digit(whole);
            case 23: return c.above(whole);
            case 24: return c.below(whole);
            case 25: return c.sum();
            case 26: return c.isTrue() ? 1 : 0;
            case 27: return c.put(p[0], p[1]);
            default: return Double.doubleToRawLongBits(c.number(p[0]));
        }
    }

    private static long due(Model c, int call, int[] p, int whole) {
        switch (call) {
            case 0: return c.put(p[0], whole);
            case 1: return c.putBelow(p[0]);
            case 2: return c.turn(p[0]);
            case 3: return c.eighths(p[0]);
            case 4: return c.bits(p[0]);
            case 5: return c.rest(p[0], p[1], p[2]);
            case 6: return c.restToo(p[0], p[1], p[2]);
            case 7: return c.times(p[0], p[1]);
            case 8: return c.isHalf(p[0], p[1]) ? 1 : 0;
            case 9: return c.cut(p[0], p[1], p[2]);
            case 10: return c.apart(p[0], p[1]);
            case 11: return c.residue(p[0], p[1], p[2]);
            case 12: return c.plus(p[0], p[1], p[2], p[3]);
            case 13: return c.minus(p[0], p[1], p[2], p[3]);
            case 14: return c.many(p[0], whole, p[1], p[2]);
            case 15: return c.product(p[0], p[1], p[2], p[3]);
            case 16: return c.power(p[0], p[1], whole, p[2]);
            case 17: return c.inverse(p[0], p[1], p[2]);
            case 18: return c.order(p[0], p[1]);
            case 19: return c.measure(p[0], p[1], p[2]);
            case 20: return c.steps(p[0], p[1]);
            case 21: return c.digits(p[0], p[1]);
            case 22: return c.digit(whole);
            case 23: return c.above(whole);
            case 24: return c.below(whole);
            case 25: return c.sum();
            case 26: return 1;
            case 27: return c.put(p[0], p[1]);
            default: return c.bits(p[0]);
        }
    }
}
