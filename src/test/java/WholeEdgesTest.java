import java.util.Arrays;
import java.util.List;

/** Promises 28 to 30, each sentence that names a boundary in a test of its own. The figures are eighths. */
public final class WholeEdgesTest {
    private static final int BELOW = Clocks.BELOW;

    private WholeEdgesTest() {
    }

    public static void main(String[] args) {
        promise28AllPlaces();
        promise28EndsOfTheSet();
        promise28EitherZero();
        promise29NoDigits();
        promise29PlaceByPlace();
        promise29EndsOfTheSet();
        promise29TheZeroBelow();
        promise29HowManyDigitsThereAre();
        promise29DigitByDigit();
        promise29GoesRound();
        promise30OfNoDivisor();
        promise30EitherZeroAsX();
        promise30EndsOfTheSet();
        promise30TiesAndNoInverse();
        promise30AfterARefusedCall();
        promise30ChangesNothing();
        Check.end(WholeEdgesTest.class);
    }

    private static Nearestclock allOf(int eighths) {
        Nearestclock clock = new Nearestclock();
        for (int place = 0; place <= 11; place++) {
            Clocks.placeEighths(clock, place, eighths);
        }
        return clock;
    }

    /** Promise 28: "all places": the first and the last, too. */
    private static void promise28AllPlaces() {
        Nearestclock clock = new Nearestclock();
        Check.same("promise 28: of a new object", clock.sum(), 0);
        int due = 0;
        for (int place = 0; place <= 11; place++) {
            clock.put(place, 10 + place);
            due += 10 + place;
            Check.same("promise 28: with place " + place, clock.sum(), due);
        }
        Check.same("promise 28: of all places", clock.sum(), 186);
    }

    /** Promise 28: the most and the least; no sum is so large that it goes round. */
    private static void promise28EndsOfTheSet() {
        Check.same("promise 28: of the most in all places", allOf(127).sum(), 1524);
        Check.same("promise 28: of the least in all places", allOf(-127).sum(), -1524);
        Check.same("promise 28: of the most and the least", Clocks.ofEighths(127, -127).sum(), 0);
    }

    /** Promise 28: "how many eighths": those of either 0 are 0. */
    private static void promise28EitherZero() {
        Check.same("promise 28: of 0s below", allOf(BELOW).sum(), 0);
        Check.same("promise 28: of both 0s and -3", Clocks.ofEighths(0, BELOW, -3).sum(), -3);
    }

    /** Promise 29: "from 17 on", with the plain 0 in all places and no digits. */
    private static void promise29NoDigits() {
        Check.same("promise 29: of a new object", new Nearestclock().checksum(), -9176826638753963121L);
    }

    /** Promise 29: "place by place": which place a number is in counts, the last one, too. */
    private static void promise29PlaceByPlace() {
        Nearestclock last = new Nearestclock();
        last.put(11, 1);
        Check.same("promise 29: one eighth in the last place", last.checksum(), 4099785062734259087L);
        Check.same("promise 29: one eighth in place 1", Clocks.ofEighths(0, 1).checksum(), -1664822460299975793L);
    }

    /** Promise 29: "the bits of a number are added", at the ends of the set. */
    private static void promise29EndsOfTheSet() {
        Check.same("promise 29: of the most in all places", allOf(127).checksum(), -2822247564534193265L);
        // Each sign bit alone goes round to the same, so that twelve of them leave nothing.
        Check.same("promise 29: of the least in all places", allOf(-127).checksum(), -2822247564534193265L);
    }

    /** Promise 29: "the bits of a number are added", of the 0 below. */
    private static void promise29TheZeroBelow() {
        Nearestclock last = new Nearestclock();
        last.putBelow(11);
        Check.same("promise 29: the 0 below in the last place", last.checksum(), 46545398100812687L);
        Check.same("promise 29: the 0 below in place 0", Clocks.ofEighths(BELOW).checksum(), 46545398100812687L);
    }

    /** Promise 29: "then 31 times and how many digits there are": one digit that is 0 is not none. */
    private static void promise29HowManyDigitsThereAre() {
        Nearestclock clock = Clocks.ofEighths(0, 1);
        clock.digits(0, 1);
        Check.same("promise 29: with the one digit 0", clock.checksum(), 3730735951829405296L);
    }

    /** Promise 29: "then, digit by digit, 31 times and the digit", those below 0, too, and no old ones. */
    private static void promise29DigitByDigit() {
        Nearestclock clock = Clocks.ofEighths(100, 37);
        clock.digits(0, 1);
        Check.same("promise 29: with 3, -3, -3, 4", clock.checksum(), -2843324467761269868L);
        clock.put(0, 0);
        clock.put(1, 1);
        clock.digits(0, 1);
        Check.same("promise 29: with the one digit 0 after four", clock.checksum(), 3730735951829405296L);
    }

    /** Promise 29: "as a long that goes round": whole numbers of any size, cut to 64 bits behind the last step. */
    private static void promise29GoesRound() {
        for (int eighths : new int[] {127, -127, 1, -1, BELOW}) {
            Nearestclock clock = allOf(eighths);
            double[] numbers = new double[12];
            Arrays.fill(numbers, eighths == BELOW ? -0.0 : eighths / 8.0);
            String what = "promise 29: all of " + Clocks.nameOf(eighths);
            Check.same(what, clock.checksum(), Oracle.checksum(numbers, List.of()));
        }
    }

    /** Promise 30: "each by each one that is not 0": there may be none. */
    private static void promise30OfNoDivisor() {
        Check.isTrue("promise 30: of a new object", new Nearestclock().isTrue());
        Check.isTrue("promise 30: of 0s below", allOf(BELOW).isTrue());
    }

    /** Promise 30: "of the numbers in all places": both 0s by numbers that are not 0. */
    private static void promise30EitherZeroAsX() {
        for (int y : new int[] {1, -1, 2, 8, -8, 127, -127}) {
            Check.isTrue("promise 30: both 0s by " + y, Clocks.ofEighths(0, BELOW, y).isTrue());
        }
    }

    /** Promise 30: "always true", at the ends of the set. */
    private static void promise30EndsOfTheSet() {
        Check.isTrue("promise 30: of the most", allOf(127).isTrue());
        Check.isTrue("promise 30: of the least", allOf(-127).isTrue());
        int[] ends = {127, -127, 126, -126, 1, -1, 2, -2, 64, -63, 0, BELOW};
        Check.isTrue("promise 30: of all ends", Clocks.ofEighths(ends).isTrue());
    }

    /** Promise 30: "always true", where rests lie just in the middle, and where there is no inverse. */
    private static void promise30TiesAndNoInverse() {
        Check.isTrue("promise 30: rests in the middle", Clocks.ofEighths(4, -4, 12, -12, 20, 8, -8, 2, 1).isTrue());
        Check.isTrue("promise 30: no inverse", Clocks.ofEighths(6, 8, -6, 4, 63, 126, -42, 84).isTrue());
        Check.isTrue("promise 30: long ways", Clocks.ofEighths(89, 123, -123, 100, 37, 70, 111, 81, 112).isTrue());
    }

    /** Promise 30: "always true", behind a refused call as well. */
    private static void promise30AfterARefusedCall() {
        Nearestclock clock = Clocks.filled();
        Check.refusedBy(clock, "promise 30: digits by 0", ArithmeticException.class, c -> c.digits(0, Clocks.ZERO));
        Check.isTrue("promise 30: behind a refused call", clock.isTrue());
        Check.refusedBy(clock, "promise 30: inverse", ArithmeticException.class, c -> c.inverse(0, 8, 3));
        Check.isTrue("promise 30: behind another", clock.isTrue());
    }

    /** Promise 30: it looks, and tells; what is kept, the row of digits too, stays. */
    private static void promise30ChangesNothing() {
        Nearestclock clock = Clocks.filled();
        List<Long> before = Clocks.allTold(clock);
        Check.isTrue("promise 30: of a filled clock", clock.isTrue());
        Check.isTrue("promise 30: nothing changed", before.equals(Clocks.allTold(clock)));
    }
}
