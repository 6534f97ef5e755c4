import java.util.ArrayList;
import java.util.List;

/** Clocks for tests, the numbers of the set, and all that a clock keeps. */
final class Clocks {
    static final int PLACES = 12;
    static final int LARGEST = 127;
    static final int ZERO = 10;
    static final int ZERO_BELOW = 11;
    private static final int[] FILLING = {100, 37, -12, 8, 127, -127, 1, -1, 6, -64, 0, 0};

    private Clocks() {
    }

    /** A clock with another number in each place, both 0s among them, and with four digits. */
    static Nearestclock filled() {
        Nearestclock clock = new Nearestclock();
        for (int place = 0; place < PLACES; place++) {
            clock.put(place, FILLING[place]);
        }
        clock.putBelow(ZERO_BELOW);
        clock.digits(0, 1);
        return clock;
    }

    /** The whole set: both 0s, and the eighths from -127 to 127. */
    static List<Double> set() {
        List<Double> all = new ArrayList<>();
        all.add(-0.0);
        for (int eighths = -LARGEST; eighths <= LARGEST; eighths++) {
            all.add(eighths / 8.0);
        }
        return all;
    }

    /** The set without its 0s. */
    static List<Double> divisors() {
        List<Double> all = set();
        all.removeIf(number -> number == 0);
        return all;
    }

    /** Some numbers of the set, with its edges. */
    static List<Double> some() {
        int[] eighths = {-127, -126, -65, -64, -63, -12, -8, -7, -2, -1, 0, 1, 2, 3, 8, 9, 63, 64, 100, 126, 127};
        List<Double> all = new ArrayList<>();
        all.add(-0.0);
        for (int each : eighths) {
            all.add(each / 8.0);
        }
        return all;
    }

    static void place(Nearestclock clock, int place, double number) {
        if (Oracle.bits(number) == Oracle.bits(-0.0)) {
            clock.putBelow(place);
        } else {
            clock.put(place, Oracle.eighths(number));
        }
    }

    /** A clock with these numbers from place 0 on. */
    static Nearestclock of(double... numbers) {
        Nearestclock clock = new Nearestclock();
        for (int place = 0; place < numbers.length; place++) {
            place(clock, place, numbers[place]);
        }
        return clock;
    }

    /** All that can be told of a clock without changing it; some thirty calls. */
    static List<Long> allKept(Nearestclock clock) {
        List<Long> all = new ArrayList<>();
        for (int place = 0; place < PLACES; place++) {
            all.add(clock.bits(place));
        }
        all.addAll(digitsOf(clock));
        all.add(clock.checksum());
        all.add((long) clock.sum());
        return all;
    }

    static List<Long> digitsOf(Nearestclock clock) {
        List<Long> all = new ArrayList<>();
        try {
            for (int index = 0; index < 100; index++) {
                all.add((long) clock.digit(index));
            }
        } catch (IndexOutOfBoundsException e) {
            return all;
        }
        return all;
    }
}
