import java.util.Arrays;
import java.util.List;
import java.util.function.Consumer;

/** Counts what a test looks at, tells what is wrong, and ends the test's program. */
final class Check {
    private static final int[] NO_PLACES = {-1, 12, 13, Integer.MIN_VALUE, Integer.MAX_VALUE};
    private static final int MOST_TOLD = 20;
    private static long looks = 0;
    private static int wrong = 0;

    /** A call that names one place or more. */
    interface Call {
        void on(Nearestclock clock, int[] places);
    }

    private Check() {
    }

    static void same(String what, long got, long due) {
        looks++;
        if (got != due) {
            tell(what + " answered " + got + ", due is " + due);
        }
    }

    static void isTrue(String what, boolean got) {
        looks++;
        if (!got) {
            tell(what + " is not so");
        }
    }

    /** That a call on a filled clock throws just this exception and changes nothing. */
    static void refused(String what, Class<? extends RuntimeException> due, Consumer<Nearestclock> call) {
        Nearestclock clock = Clocks.filled();
        refusedBy(clock, what, due, call);
    }

    static void refusedBy(Nearestclock clock, String what, Class<? extends RuntimeException> due,
            Consumer<Nearestclock> call) {
        List<Long> before = Clocks.allKept(clock);
        Class<?> thrown = null;
        try {
            call.accept(clock);
        } catch (RuntimeException e) {
            thrown = e.getClass();
        }
        isTrue(what + " throws " + due.getSimpleName() + " (it threw " + thrown + ")", thrown == due);
        isTrue(what + " changes nothing", before.equals(Clocks.allKept(clock)));
    }

    /** That the call refuses what is no place, at each of its parameters, with good ones and with these others. */
    static void refusesNoPlaces(String what, int[] good, Call call) {
        for (int at = 0; at < good.length; at++) {
            for (int noPlace : NO_PLACES) {
                int[] places = good.clone();
                places[at] = noPlace;
                refused(what + " of place " + noPlace + " as number " + at, IndexOutOfBoundsException.class,
                        clock -> call.on(clock, places));
            }
        }
        int[] none = good.clone();
        Arrays.fill(none, 12);
        refused(what + " of no place at all", IndexOutOfBoundsException.class, clock -> call.on(clock, none));
    }

    /** That the call, whose last place is the divisor's, refuses both 0s, and before them what is no place. */
    static void refusesZero(String what, int[] good, Call call) {
        for (int zero : new int[] {Clocks.ZERO, Clocks.ZERO_BELOW}) {
            int[] places = good.clone();
            int last = places.length - 1;
            places[last] = zero;
            refused(what + " by the 0 in place " + zero, ArithmeticException.class, clock -> call.on(clock, places));
            for (int at = 0; at < last; at++) {
                int[] both = places.clone();
                both[at] = -1;
                refused(what + " by 0 and of no place as number " + at, IndexOutOfBoundsException.class,
                        clock -> call.on(clock, both));
            }
        }
    }

    static void end(Class<?> test) {
        System.out.println(test.getSimpleName() + ": " + looks + " looks, " + wrong + " wrong");
        if (wrong != 0 || looks == 0) {
            System.exit(1);
        }
    }

    private static void tell(String text) {
        wrong++;
        if (wrong <= MOST_TOLD) {
            System.out.println("wrong: " + text);
        }
    }
}
