import java.util.ArrayList;
import java.util.List;

/** Clocks for tests, the numbers of the set, and all that a clock keeps. */
final class Clocks {
    static final int PLACES = 12;
    static final int LARGEST = 127;
    static final int ZERO = 10;
    static final int ZERO_BELOW = 11;
    /** Stands for the 0 below where numbers are told by their eighths. */
    static final int BELOW = Integer.MIN_VALUE;
    private static final int[] FILLING = {100, 37, -12, 8, 127, -127, 1, -1, 6, -64, 0, 0};

    private Clocks() {
    }

    /** A clock with another number in each place, both 0s among them, and with four digits. */
    static Nearestclock filled() {
        Nearestclock clock = new Nearestclock();
        for (int place = 0; place < PLACES; place++) {
            clock.put(place, FILLING[place]);
        }
        clock.putBelow(ZERO_BELOW);
        clock.digits(0, 1);
        return clock;
    }

    /** The whole set: both 0s, and the eighths from -127 to 127. */
    static List<Double> set() {
        List<Double> all = new ArrayList<>();
        all.add(-0.0);
        for (int eighths = -LARGEST; eighths <= LARGEST; eighths++) {
            all.add(eighths / 8.0);
        }
        return all;
    }

    /** The set without its 0s. */
    static List<Double> divisors() {
        List<Double> all = set();
        all.removeIf(number -> number == 0);
        return all;
    }

    /** Some numbers of the set, with its edges. */
    static List<Double> some() {
        int[] eighths = {-127, -126, -65, -64, -63, -12, -8, -7, -2, -1, 0, 1, 2, 3, 8, 9, 63, 64, 100, 126, 127};
        List<Double> all = new ArrayList<>();
        all.add(-0.0);
        for (int each : eighths) {
            all.add(each / 8.0);
        }
        return all;
    }

    static void place(Nearestclock clock, int place, double number) {
        if (Oracle.bits(number) == Oracle.bits(-0.0)) {
            clock.putBelow(place);
        } else {
            clock.put(place, Oracle.eighths(number));
        }
    }

    /** A clock with these numbers from place 0 on. */
    static Nearestclock of(double... numbers) {
        Nearestclock clock = new Nearestclock();
        for (int place = 0; place < numbers.length; place++) {
            place(clock, place, numbers[place]);
        }
        return clock;
    }

    /** A clock with these numbers from place 0 on, told by their eighths. */
    static Nearestclock ofEighths(int... eighths) {
        Nearestclock clock = new Nearestclock();
        for (int place = 0; place < eighths.length; place++) {
            placeEighths(clock, place, eighths[place]);
        }
        return clock;
    }

    static void placeEighths(Nearestclock clock, int place, int eighths) {
        if (eighths == BELOW) {
            clock.putBelow(place);
        } else {
            clock.put(place, eighths);
        }
    }

    static long bitsOf(int eighths) {
        return Double.doubleToLongBits(eighths == BELOW ? -0.0 : eighths / 8.0);
    }

    /** The bits of the number itself, which need not be those that the clock tells. */
    static long rawOf(Nearestclock clock, int place) {
        return Double.doubleToRawLongBits(clock.number(place));
    }

    static String nameOf(int eighths) {
        return eighths == BELOW ? "the 0 below" : eighths + " eighths";
    }

    /** What every call tells that changes nothing, some 130 of them; the clock is still what it was. */
    static List<Long> allTold(Nearestclock clock) {
        List<Long> all = allKept(clock);
        for (int place = 0; place < PLACES; place++) {
            all.add((long) clock.eighths(place));
            all.add(rawOf(clock, place));
            addOfTwo(clock, place, (place + 1) % PLACES, all);
        }
        int digits = digitsOf(clock).size();
        for (int many = 0; many <= digits; many++) {
            all.add((long) clock.above(many));
            all.add((long) clock.below(many));
        }
        all.add(clock.isTrue() ? 1L : 0L);
        return all;
    }

    private static void addOfTwo(Nearestclock clock, int x, int y, List<Long> all) {
        all.add((long) clock.steps(x, y));
        if (clock.eighths(y) != 0) {
            all.add((long) clock.times(x, y));
            all.add(clock.isHalf(x, y) ? 1L : 0L);
            all.add((long) clock.apart(x, y));
            all.add((long) clock.order(x, y));
        }
    }

    /** All that is kept, told in some twenty calls. */
    static List<Long> allKept(Nearestclock clock) {
        List<Long> all = new ArrayList<>();
        for (int place = 0; place < PLACES; place++) {
            all.add(clock.bits(place));
        }
        all.addAll(digitsOf(clock));
        all.add(clock.checksum());
        all.add((long) clock.sum());
        return all;
    }

    static List<Long> digitsOf(Nearestclock clock) {
        List<Long> all = new ArrayList<>();
        try {
            for (int index = 0; index < 100; index++) {
                all.add((long) clock.digit(index));
            }
        } catch (IndexOutOfBoundsException e) {
            return all;
        }
        return all;
    }
}
