import java.util.Arrays;
import java.util.List;
import java.util.function.Consumer;
import java.util.function.Function;

/** Counts what a test looks at, tells what is wrong, and ends the test's program. */
final class Check {
    private static final int[] NO_PLACES = {-1, 12, 13, Integer.MIN_VALUE, Integer.MAX_VALUE};
    private static final int MOST_TOLD = 20;
    private static long looks = 0;
    private static int wrong = 0;

    /** A call that names one place or more. */
    interface Call {
        void on(Nearestclock clock, int[] places);
    }

    private Check() {
    }

    static void same(String what, long got, long due) {
        looks++;
        if (got != due) {
            tell(what + " answered " + got + ", due is " + due);
        }
    }

    static void isTrue(String what, boolean got) {
        looks++;
        if (!got) {
            tell(what + " is not so");
        }
    }

    /** That a call on a filled clock throws just this exception and changes nothing that any call tells. */
    static void refused(String what, Class<? extends RuntimeException> due, Consumer<Nearestclock> call) {
        refusedBy(Clocks.filled(), what, due, call, Clocks::allTold);
    }

    /** The same on this clock, asked so little that some ten such looks are still within its 512 calls. */
    static void refusedBy(Nearestclock clock, String what, Class<? extends RuntimeException> due,
            Consumer<Nearestclock> call) {
        refusedBy(clock, what, due, call, Clocks::allKept);
    }

    private static void refusedBy(Nearestclock clock, String what, Class<? extends RuntimeException> due,
            Consumer<Nearestclock> call, Function<Nearestclock, List<Long>> state) {
        List<Long> before = state.apply(clock);
        Class<?> thrown = null;
        try {
            call.accept(clock);
        } catch (RuntimeException e) {
            thrown = e.getClass();
        }
        isTrue(what + " throws " + due.getSimpleName() + " (it threw " + thrown + ")", thrown == due);
        isTrue(what + " changes nothing", before.equals(state.apply(clock)));
    }

    /** That the call refuses what is no place, at each of its parameters, with good ones and with these others. */
    static void refusesNoPlaces(String what, int[] good, Call call) {
        for (int at = 0; at < good.length; at++) {
            for (int noPlace : NO_PLACES) {
                int[] places = good.clone();
                places[at] = noPlace;
                refused(what + " of place " + noPlace + " as number " + at, IndexOutOfBoundsException.class,
                        clock -> call.on(clock, places));
            }
        }
        int[] none = good.clone();
        Arrays.fill(none, 12);
        refused(what + " of no place at all", IndexOutOfBoundsException.class, clock -> call.on(clock, none));
    }

    static void end(Class<?> test) {
        System.out.println(test.getSimpleName() + ": " + looks + " looks, " + wrong + " wrong");
        if (wrong != 0 || looks == 0) {
            System.exit(1);
        }
    }

    private static void tell(String text) {
        wrong++;
        if (wrong <= MOST_TOLD) {
            System.out.println("wrong: " + text);
        }
    }
}
