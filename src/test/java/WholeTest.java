import java.util.ArrayList;
import java.util.Arrays;
import java.util.List;

/** Promises 29 and 30: every two numbers of the set. */
public final class WholeTest {
    private WholeTest() {
    }

    public static void main(String[] args) {
        promise29Checksum();
        promise29ChecksumOfDigits();
        promise30IsTrueOfAllTwo();
        promise30IsTrueOfMany();
        Check.end(WholeTest.class);
    }

    private static void promise29Checksum() {
        Nearestclock clock = new Nearestclock();
        double[] numbers = new double[Clocks.PLACES];
        List<Integer> none = new ArrayList<>();
        Check.same("checksum of a new object", clock.checksum(), Oracle.checksum(numbers, none));
        for (int place = 0; place < Clocks.PLACES; place++) {
            for (double number : new double[] {1 / 8.0, -127 / 8.0, -0.0, 127 / 8.0}) {
                Clocks.place(clock, place, number);
                numbers[place] = number;
                Check.same("checksum", clock.checksum(), Oracle.checksum(numbers, none));
            }
        }
    }

    private static void promise29ChecksumOfDigits() {
        for (double x : Clocks.set()) {
            for (double z : Clocks.divisors()) {
                Nearestclock clock = Clocks.of(x, z);
                clock.digits(0, 1);
                double[] numbers = Arrays.copyOf(new double[] {x, z}, Clocks.PLACES);
                long due = Oracle.checksum(numbers, Oracle.digits(x, z));
                Check.same("checksum with digits of " + x + " and " + z, clock.checksum(), due);
            }
        }
    }

    private static void promise30IsTrueOfAllTwo() {
        Check.isTrue("a new object", new Nearestclock().isTrue());
        for (double x : Clocks.set()) {
            for (double y : Clocks.divisors()) {
                Check.isTrue("isTrue of " + x + " by " + y, Clocks.of(x, y).isTrue());
            }
        }
    }

    private static void promise30IsTrueOfMany() {
        Nearestclock clock = new Nearestclock();
        for (int first = -Clocks.LARGEST; first <= Clocks.LARGEST - 22; first++) {
            for (int place = 0; place < Clocks.PLACES; place++) {
                clock.put(place, first + 2 * place);
            }
            if (first % 2 == 0) {
                Check.isTrue("isTrue from " + first, clock.isTrue());
                clock = new Nearestclock();
            }
        }
    }
}
