/**
 * Promises 22 to 27 and "Digits.", each sentence that names a boundary in a test of its own. The figures are eighths.
 */
public final class MeasuresEdgesTest {
    private static final int BELOW = Clocks.BELOW;
    private static final int[] ZEROS = {0, BELOW};
    private static final Class<IndexOutOfBoundsException> NONE = IndexOutOfBoundsException.class;
    private static final Class<ArithmeticException> ZERO = ArithmeticException.class;

    private MeasuresEdgesTest() {
    }

    public static void main(String[] args) {
        promise22AboveZero();
        promise22OfOneZero();
        promise22OfTwoZeros();
        promise22EndsOfTheSet();
        promise22IntoAnyPlace();
        promise23NoneIfZIsZero();
        promise23TillOneIsZero();
        termsAtMostSevenSteps();
        promise23LeavesTheDigits();
        promise24InOrder();
        promise24OfZeroByZ();
        promise24MadeAnew();
        promise24RefusedLeavesTheDigits();
        promise25FirstAndLastDigit();
        promise25JustBehindTheLast();
        promise26OfNone();
        promise26OfOne();
        promise26OfMore();
        promise26AllDigitsAndOneMore();
        promise27OfNone();
        promise27OfOne();
        promise27OfMore();
        promise27AllDigitsAndOneMore();
        termsShareInLowestTerms();
        Check.end(MeasuresEdgesTest.class);
    }

    private static void measure(int x, int z, int due) {
        String what = "promise 22: measure of " + Clocks.nameOf(x) + " and " + Clocks.nameOf(z);
        Nearestclock clock = Clocks.ofEighths(x, z);
        clock.putBelow(11);
        Check.same(what, clock.measure(11, 0, 1), Clocks.bitsOf(due));
        Check.same(what + ": kept", clock.bits(11), Clocks.bitsOf(due));
        Check.same(what + ": itself", Clocks.rawOf(clock, 11), Clocks.bitsOf(due));
        Check.same(what + " the other way round", clock.measure(11, 1, 0), Clocks.bitsOf(due));
    }

    /** Promise 22: "the greatest number above 0", whatever the signs of the two. */
    private static void promise22AboveZero() {
        for (int signs = 0; signs < 4; signs++) {
            int ofX = (signs & 1) == 0 ? 1 : -1;
            int ofZ = (signs & 2) == 0 ? 1 : -1;
            measure(12 * ofX, 8 * ofZ, 4);
            measure(8 * ofX, 8 * ofZ, 8);
            measure(100 * ofX, 37 * ofZ, 1);
            measure(6 * ofX, 2 * ofZ, 2);
            measure(ofX, 127 * ofZ, 1);
        }
    }

    /** Promise 22: "of which both x and z are a whole number of times": 0 is none times each number. */
    private static void promise22OfOneZero() {
        for (int zero : ZEROS) {
            measure(zero, 1, 1);
            measure(zero, -1, 1);
            measure(zero, 24, 24);
            measure(zero, -24, 24);
            measure(zero, 127, 127);
            measure(zero, -127, 127);
        }
    }

    /** Promise 22: "of two 0s the plain 0", whatever their signs. */
    private static void promise22OfTwoZeros() {
        for (int x : ZEROS) {
            for (int z : ZEROS) {
                measure(x, z, 0);
                Nearestclock clock = Clocks.ofEighths(x, z);
                clock.put(11, 5);
                Check.same("promise 22: of two 0s over a number", clock.measure(11, 0, 1), 0);
                Check.same("promise 22: of one 0 and itself", clock.measure(0, 0, 0), 0);
            }
        }
    }

    /** "The set.": "from -127 to 127": both ends, and numbers beside them. */
    private static void promise22EndsOfTheSet() {
        measure(127, 127, 127);
        measure(127, -127, 127);
        measure(-127, -127, 127);
        measure(127, 126, 1);
        measure(126, -126, 126);
        measure(126, 63, 63);
        measure(-126, 84, 42);
    }

    /** Promise 22: "to: 0 to 11": the places of x and z are not left out. */
    private static void promise22IntoAnyPlace() {
        for (int to = 0; to < 3; to++) {
            Nearestclock clock = Clocks.ofEighths(-12, -8);
            Check.same("promise 22 into " + to, clock.measure(to, 0, 1), Clocks.bitsOf(4));
            Check.same("promise 22 into " + to + ": x", clock.eighths(0), to == 0 ? 4 : -12);
            Check.same("promise 22 into " + to + ": z", clock.eighths(1), to == 1 ? 4 : -8);
        }
        Check.same("promise 22, one place", Clocks.ofEighths(-12).measure(0, 0, 0), Clocks.bitsOf(12));
    }

    private static void steps(int x, int z, int due) {
        String what = "promise 23: steps of " + Clocks.nameOf(x) + " and " + Clocks.nameOf(z);
        Check.same(what, Clocks.ofEighths(x, z).steps(0, 1), due);
    }

    /** Promise 23: "Returns how many, 0 if z is 0." */
    private static void promise23NoneIfZIsZero() {
        for (int zero : ZEROS) {
            steps(5, zero, 0);
            steps(-127, zero, 0);
            steps(0, zero, 0);
            steps(BELOW, zero, 0);
        }
    }

    /** Promise 23: "and so on, each time of the one before by the one just found, till one is 0". */
    private static void promise23TillOneIsZero() {
        for (int zero : ZEROS) {
            steps(zero, 5, 1);
            steps(zero, -127, 1);
        }
        steps(8, 8, 1);
        steps(-8, 8, 1);
        steps(127, 1, 1);
        steps(1, 127, 2);
        steps(4, 8, 2);
        steps(12, 8, 2);
        steps(127, 126, 2);
        steps(100, 37, 4);
        steps(37, 100, 5);
        steps(89, 123, 6);
        steps(-123, 89, 6);
        Check.same("promise 23: one place", Clocks.ofEighths(-12).steps(0, 0), 1);
    }

    /** Terms: "By rests alone the greatest common measure of any two numbers of the set is found in at most seven". */
    private static void termsAtMostSevenSteps() {
        for (double x : Clocks.set()) {
            for (double z : Clocks.divisors()) {
                Nearestclock clock = Clocks.of(x, z);
                long measure = clock.measure(11, 0, 1);
                int steps = clock.steps(0, 1);
                Check.isTrue(x + " and " + z + " take one to seven steps", steps >= 1 && steps <= 7);
                for (int step = 1; step < steps; step++) {
                    clock.rest(0, 0, 1);
                    swap(clock);
                }
                Check.same("the last number that is not 0", Clocks.bitsOf(Math.abs(clock.eighths(1))), measure);
                clock.rest(0, 0, 1);
                Check.same("and then 0", clock.eighths(0), 0);
            }
        }
    }

    private static void swap(Nearestclock clock) {
        int first = clock.eighths(0);
        clock.put(0, clock.eighths(1));
        clock.put(1, first);
    }

    /** Promise 23 tells alone: "Makes the row of digits anew" stands with promise 24 only. */
    private static void promise23LeavesTheDigits() {
        Nearestclock clock = Clocks.filled();
        clock.steps(4, 6);
        clock.steps(4, Clocks.ZERO);
        digitsAre("promise 23 leaves them", clock, 3, -3, -3, 4);
    }

    private static void digitsAre(String what, Nearestclock clock, int... due) {
        for (int index = 0; index < due.length; index++) {
            Check.same(what + ": digit " + index, clock.digit(index), due[index]);
        }
        Check.refusedBy(clock, what + ": digit " + due.length, NONE, c -> c.digit(due.length));
    }

    private static void digits(int x, int z, int... due) {
        String what = "promise 24: digits of " + Clocks.nameOf(x) + " and " + Clocks.nameOf(z);
        Nearestclock clock = Clocks.ofEighths(x, z);
        Check.same(what, clock.digits(0, 1), due.length);
        digitsAre(what, clock, due);
        Check.same(what + ": x", clock.bits(0), Clocks.bitsOf(x));
        Check.same(what + ": z", clock.bits(1), Clocks.bitsOf(z));
    }

    /** Promise 24: "the whole numbers n of the rests that steps would take, in order", even ones, and below 0. */
    private static void promise24InOrder() {
        digits(8, 8, 1);
        digits(-8, 8, -1);
        digits(127, 1, 127);
        digits(127, -1, -127);
        digits(127, 126, 1, 126);
        digits(-127, -126, 1, 126);
        digits(4, 8, 0, 2);
        digits(12, 8, 2, -2);
        digits(8, -12, -1, 3);
        digits(100, 37, 3, -3, -3, 4);
        digits(-100, 37, -3, 3, 3, -4);
        digits(37, 100, 0, 3, -3, -3, 4);
        digits(89, 123, 1, -4, 3, -3, 2, 2);
        digits(-123, 89, -1, -3, 3, -3, 2, 2);
    }

    /** Promise 24: of 0, either one, one rest is taken, and its n is 0. */
    private static void promise24OfZeroByZ() {
        for (int zero : ZEROS) {
            digits(zero, 8, 0);
            digits(zero, -127, 0);
        }
    }

    /** Promise 24: "Makes the row of digits anew": fewer behind more, more behind fewer, the same once more. */
    private static void promise24MadeAnew() {
        Nearestclock clock = Clocks.ofEighths(89, 123, 100, 37, 8);
        Check.same("promise 24: six", clock.digits(0, 1), 6);
        Check.same("promise 24: one behind six", clock.digits(4, 4), 1);
        digitsAre("promise 24: one behind six", clock, 1);
        Check.refusedBy(clock, "promise 24: above(2) of one", NONE, c -> c.above(2));
        Check.refusedBy(clock, "promise 24: below(2) of one", NONE, c -> c.below(2));
        Check.same("promise 24: four behind one", clock.digits(2, 3), 4);
        digitsAre("promise 24: four behind one", clock, 3, -3, -3, 4);
        Check.same("promise 24: the same four", clock.digits(2, 3), 4);
        digitsAre("promise 24: the same four", clock, 3, -3, -3, 4);
    }

    /** Promise 24: "Throws ArithmeticException if z is 0, of either sign"; terms: "changes nothing". */
    private static void promise24RefusedLeavesTheDigits() {
        for (int zero : new int[] {Clocks.ZERO, Clocks.ZERO_BELOW}) {
            Nearestclock clock = Clocks.filled();
            Check.refusedBy(clock, "promise 24: digits of a number and 0", ZERO, c -> c.digits(4, zero));
            digitsAre("promise 24: refused", clock, 3, -3, -3, 4);
            Check.same("promise 24: above, refused", clock.above(4), 100);
            Check.same("promise 24: below, refused", clock.below(4), 37);
        }
    }

    /** Promise 25: "index: from 0": the first and the last digit. */
    private static void promise25FirstAndLastDigit() {
        Nearestclock clock = Clocks.ofEighths(89, 123);
        clock.digits(0, 1);
        Check.same("promise 25: the first of six", clock.digit(0), 1);
        Check.same("promise 25: the last of six", clock.digit(5), 2);
        clock.digits(1, 1);
        Check.same("promise 25: the only one", clock.digit(0), 1);
    }

    /** Promise 25: "Throws IndexOutOfBoundsException if there is no such digit": of none, of one, of six. */
    private static void promise25JustBehindTheLast() {
        Nearestclock clock = Clocks.ofEighths(89, 123);
        Check.refusedBy(clock, "promise 25: digit(0) of none", NONE, c -> c.digit(0));
        Check.refusedBy(clock, "promise 25: digit(-1) of none", NONE, c -> c.digit(-1));
        clock.digits(0, 0);
        Check.refusedBy(clock, "promise 25: digit(1) of one", NONE, c -> c.digit(1));
        clock.digits(0, 1);
        Check.refusedBy(clock, "promise 25: digit(6) of six", NONE, c -> c.digit(6));
        Check.refusedBy(clock, "promise 25: digit(7) of six", NONE, c -> c.digit(7));
        Check.refusedBy(clock, "promise 25: digit(-1) of six", NONE, c -> c.digit(-1));
    }

    private static Nearestclock told(int x, int z) {
        Nearestclock clock = Clocks.ofEighths(x, z);
        clock.digits(0, 1);
        return clock;
    }

    private static void aboveIs(int x, int z, int... due) {
        for (int many = 0; many < due.length; many++) {
            Check.same("promise 26: above(" + many + ") of " + x + " and " + z, told(x, z).above(many), due[many]);
        }
    }

    private static void belowIs(int x, int z, int... due) {
        for (int many = 0; many < due.length; many++) {
            Check.same("promise 27: below(" + many + ") of " + x + " and " + z, told(x, z).below(many), due[many]);
        }
    }

    /** Promise 26: "of none 1", whether any digits are told or not. */
    private static void promise26OfNone() {
        Check.same("promise 26: of none, none told", new Nearestclock().above(0), 1);
        Check.same("promise 26: of none, four told", Clocks.filled().above(0), 1);
        aboveIs(0, 8, 1);
    }

    /** Promise 26: "of one it is that digit", 0 and below 0, too. */
    private static void promise26OfOne() {
        aboveIs(127, 1, 1, 127);
        aboveIs(127, -1, 1, -127);
        aboveIs(0, 8, 1, 0);
        aboveIs(100, 37, 1, 3);
    }

    /** Promise 26: "of more the last one times that of all but the last, and that of all but the last two". */
    private static void promise26OfMore() {
        aboveIs(127, 126, 1, 1, 127);
        aboveIs(4, 8, 1, 0, 1);
        aboveIs(12, 8, 1, 2, -3);
        aboveIs(100, 37, 1, 3, -8, 27, 100);
        aboveIs(-100, 37, 1, -3, -8, -27, 100);
        aboveIs(89, 123, 1, 1, -3, -8, 21, 34, 89);
    }

    /** Promise 26: "many: 0 to as many digits as there are": all of them, one more, and one before the first. */
    private static void promise26AllDigitsAndOneMore() {
        Check.same("promise 26: of all six", told(89, 123).above(6), 89);
        Check.refusedBy(told(89, 123), "promise 26: of seven of six", NONE, c -> c.above(7));
        Check.refusedBy(told(89, 123), "promise 26: of eight of six", NONE, c -> c.above(8));
        Check.refusedBy(told(89, 123), "promise 26: of -1 of six", NONE, c -> c.above(-1));
        Check.refusedBy(told(8, 8), "promise 26: of two of one", NONE, c -> c.above(2));
        Check.refusedBy(new Nearestclock(), "promise 26: of one of none", NONE, c -> c.above(1));
        Check.refusedBy(new Nearestclock(), "promise 26: of -1 of none", NONE, c -> c.above(-1));
    }

    /** Promise 27: "of none 0", whether any digits are told or not. */
    private static void promise27OfNone() {
        Check.same("promise 27: of none, none told", new Nearestclock().below(0), 0);
        Check.same("promise 27: of none, four told", Clocks.filled().below(0), 0);
        belowIs(0, 8, 0);
    }

    /** Promise 27: "of one 1", whatever that digit is. */
    private static void promise27OfOne() {
        belowIs(127, 1, 0, 1);
        belowIs(127, -1, 0, 1);
        belowIs(0, 8, 0, 1);
        belowIs(100, 37, 0, 1);
    }

    /** Promise 27: "of more the last digit times that of all but the last, and that of all but the last two". */
    private static void promise27OfMore() {
        belowIs(127, 126, 0, 1, 126);
        belowIs(4, 8, 0, 1, 2);
        belowIs(12, 8, 0, 1, -2);
        belowIs(100, 37, 0, 1, -3, 10, 37);
        belowIs(-100, 37, 0, 1, 3, 10, -37);
        belowIs(89, 123, 0, 1, -4, -11, 29, 47, 123);
    }

    /** Promise 27: "many: 0 to as many digits as there are": all of them, one more, and one before the first. */
    private static void promise27AllDigitsAndOneMore() {
        Check.same("promise 27: of all six", told(89, 123).below(6), 123);
        Check.refusedBy(told(89, 123), "promise 27: of seven of six", NONE, c -> c.below(7));
        Check.refusedBy(told(89, 123), "promise 27: of eight of six", NONE, c -> c.below(8));
        Check.refusedBy(told(89, 123), "promise 27: of -1 of six", NONE, c -> c.below(-1));
        Check.refusedBy(told(8, 8), "promise 27: of two of one", NONE, c -> c.below(2));
        Check.refusedBy(new Nearestclock(), "promise 27: of one of none", NONE, c -> c.below(1));
        Check.refusedBy(new Nearestclock(), "promise 27: of -1 of none", NONE, c -> c.below(-1));
    }

    /** Terms: "as a continued fraction, make the two numbers' share again, in lowest terms." */
    private static void termsShareInLowestTerms() {
        for (int x = -127; x <= 127; x++) {
            for (int z = -127; z <= 127; z++) {
                if (z != 0) {
                    lowestTerms(x, z);
                }
            }
        }
    }

    private static void lowestTerms(int x, int z) {
        Nearestclock clock = Clocks.ofEighths(x, z);
        int many = clock.digits(0, 1);
        int above = clock.above(many);
        int below = clock.below(many);
        clock.measure(11, 0, 1);
        int measure = clock.eighths(11);
        Check.same("the share of " + x + " and " + z, above * z, below * x);
        Check.same("its size above", Math.abs(above) * measure, Math.abs(x));
        Check.same("its size below", Math.abs(below) * measure, Math.abs(z));
    }
}
