/** Promises 1 to 7 and "The set.", each sentence that names a boundary in a test of its own. */
public final class NumbersEdgesTest {
    private static final long PLAIN_0 = 0L;
    private static final long BELOW_0 = Long.MIN_VALUE;
    private static final long MOST = 0x402FC00000000000L; // 15.875
    private static final long LEAST = 0xC02FC00000000000L; // -15.875
    private static final long ONE_EIGHTH = 0x3FC0000000000000L; // 0.125
    private static final int[] ENDS = {0, 11};

    private NumbersEdgesTest() {
    }

    public static void main(String[] args) {
        promise1PlainZeroInAllPlaces();
        promise1WithoutDigits();
        promise2BothEndsOfTheSet();
        promise2FirstAndLastPlace();
        promise2BitsOfTheNumberThatWasThere();
        promise2ZeroIsThePlainOne();
        promise3TheZeroBelow();
        promise3BitsOfTheNumberThatWasThere();
        promise4ZeroTurnsToo();
        promise4EndsOfTheSet();
        promise4BitsThatAreThereThen();
        promise5EitherZero();
        promise5EndsOfTheSet();
        promise6BothZeros();
        promise6EndsOfTheSet();
        promise7BothZeros();
        promise7EndsOfTheSet();
        Check.end(NumbersEdgesTest.class);
    }

    /** Promise 1: "Creates a clock with 0 in all places"; "The set.": "0 without more is the plain one." */
    private static void promise1PlainZeroInAllPlaces() {
        Nearestclock clock = new Nearestclock();
        for (int place = 0; place <= 11; place++) {
            Check.same("promise 1: bits of place " + place, clock.bits(place), PLAIN_0);
            Check.same("promise 1: eighths of place " + place, clock.eighths(place), 0);
            Check.same("promise 1: number of place " + place, Clocks.rawOf(clock, place), PLAIN_0);
            Check.same("promise 1: what was in place " + place, clock.put(place, 1), PLAIN_0);
        }
        Check.same("promise 1: sum", new Nearestclock().sum(), 0);
    }

    /** Promise 1: "without digits"; "Digits.": "There is a row of digits, whole numbers, empty at first." */
    private static void promise1WithoutDigits() {
        Nearestclock clock = new Nearestclock();
        Class<IndexOutOfBoundsException> none = IndexOutOfBoundsException.class;
        Check.refusedBy(clock, "promise 1: digit(0)", none, c -> c.digit(0));
        Check.refusedBy(clock, "promise 1: above(1)", none, c -> c.above(1));
        Check.refusedBy(clock, "promise 1: below(1)", none, c -> c.below(1));
        Check.same("promise 1: above(0)", clock.above(0), 1);
        Check.same("promise 1: below(0)", clock.below(0), 0);
        Check.same("promise 1: checksum of twelve 0s and no digits", clock.checksum(), -9176826638753963121L);
    }

    /** Promise 2: "eighths: -127 to 127"; just outside of it: RefusalsTest. */
    private static void promise2BothEndsOfTheSet() {
        for (int place : ENDS) {
            Nearestclock clock = new Nearestclock();
            clock.put(place, 127);
            Check.same("promise 2: the most", clock.bits(place), MOST);
            clock.put(place, -127);
            Check.same("promise 2: the least", clock.bits(place), LEAST);
        }
    }

    /** Promise 2: "place: 0 to 11": the one place, and none beside it. */
    private static void promise2FirstAndLastPlace() {
        for (int place : ENDS) {
            Nearestclock clock = new Nearestclock();
            clock.put(place, 5);
            for (int other = 0; other <= 11; other++) {
                Check.same("promise 2: after put into " + place, clock.eighths(other), other == place ? 5 : 0);
            }
        }
    }

    /** Promise 2: "Returns the bits, as a double, of the number that was there." */
    private static void promise2BitsOfTheNumberThatWasThere() {
        for (int place : ENDS) {
            Nearestclock clock = new Nearestclock();
            Check.same("promise 2: over the plain 0", clock.put(place, 127), PLAIN_0);
            Check.same("promise 2: over the most", clock.put(place, -127), MOST);
            Check.same("promise 2: over the least", clock.put(place, 1), LEAST);
            Check.same("promise 2: over one eighth", clock.put(place, 1), ONE_EIGHTH);
            clock.putBelow(place);
            Check.same("promise 2: over the 0 below", clock.put(place, 1), BELOW_0);
        }
    }

    /** "The set.": "or the 0 below, which is 0 but for its sign .. 0 without more is the plain one": put of 0. */
    private static void promise2ZeroIsThePlainOne() {
        int[] before = {0, Clocks.BELOW, -127, 127, -1};
        for (int each : before) {
            Nearestclock clock = Clocks.ofEighths(each);
            clock.put(0, 0);
            Check.same("promise 2: 0 over " + Clocks.nameOf(each), clock.bits(0), PLAIN_0);
            Check.same("promise 2: 0 itself over " + Clocks.nameOf(each), Clocks.rawOf(clock, 0), PLAIN_0);
        }
    }

    /** Promise 3: "Puts the 0 below into a place", 0 to 11, and into none beside it. */
    private static void promise3TheZeroBelow() {
        for (int place : ENDS) {
            Nearestclock clock = new Nearestclock();
            clock.putBelow(place);
            for (int other = 0; other <= 11; other++) {
                long due = other == place ? BELOW_0 : PLAIN_0;
                Check.same("promise 3: after putBelow into " + place, clock.bits(other), due);
            }
        }
    }

    /** Promise 3: "Returns the bits of the number that was there." */
    private static void promise3BitsOfTheNumberThatWasThere() {
        for (int place : ENDS) {
            Nearestclock clock = new Nearestclock();
            Check.same("promise 3: over the plain 0", clock.putBelow(place), PLAIN_0);
            Check.same("promise 3: over the 0 below", clock.putBelow(place), BELOW_0);
            clock.put(place, 127);
            Check.same("promise 3: over the most", clock.putBelow(place), MOST);
            clock.put(place, -127);
            Check.same("promise 3: over the least", clock.putBelow(place), LEAST);
        }
    }

    /** Promise 4: "its sign changes, that of 0, too." */
    private static void promise4ZeroTurnsToo() {
        for (int place : ENDS) {
            Nearestclock clock = new Nearestclock();
            clock.turn(place);
            Check.same("promise 4: the plain 0 turned", clock.bits(place), BELOW_0);
            clock.turn(place);
            Check.same("promise 4: the 0 below turned", clock.bits(place), PLAIN_0);
            clock.putBelow(place);
            clock.turn(place);
            Check.same("promise 4: the 0 below, put, turned", clock.bits(place), PLAIN_0);
        }
    }

    /** Promise 4: "Turns the number in a place", at the ends of the set, and none beside it. */
    private static void promise4EndsOfTheSet() {
        for (int place : ENDS) {
            Nearestclock clock = new Nearestclock();
            clock.put(place, 127);
            clock.turn(place);
            Check.same("promise 4: the most turned", clock.bits(place), LEAST);
            Check.same("promise 4: the most turned, itself", Clocks.rawOf(clock, place), LEAST);
            clock.turn(place);
            Check.same("promise 4: the least turned", clock.bits(place), MOST);
            Check.same("promise 4: the least turned, itself", Clocks.rawOf(clock, place), MOST);
            Check.same("promise 4: a place beside it", clock.bits(place == 0 ? 1 : 10), PLAIN_0);
        }
    }

    /** Promise 4: "Returns the bits of the number that is there then." */
    private static void promise4BitsThatAreThereThen() {
        Check.same("promise 4: of the plain 0", Clocks.ofEighths(0).turn(0), BELOW_0);
        Check.same("promise 4: of the 0 below", Clocks.ofEighths(Clocks.BELOW).turn(0), PLAIN_0);
        Check.same("promise 4: of the most", Clocks.ofEighths(127).turn(0), LEAST);
        Check.same("promise 4: of the least", Clocks.ofEighths(-127).turn(0), MOST);
        Check.same("promise 4: of one eighth below 0", Clocks.ofEighths(-1).turn(0), ONE_EIGHTH);
    }

    /** Promise 5: "Returns how many eighths it has, 0 for either 0." */
    private static void promise5EitherZero() {
        for (int place : ENDS) {
            Nearestclock clock = new Nearestclock();
            Check.same("promise 5: of the plain 0", clock.eighths(place), 0);
            clock.putBelow(place);
            Check.same("promise 5: of the 0 below", clock.eighths(place), 0);
        }
    }

    /** "The set.": "A number is n / 8 for a whole n from -127 to 127": promise 5 tells n. */
    private static void promise5EndsOfTheSet() {
        for (int eighths : new int[] {-127, -126, -1, 1, 126, 127}) {
            Check.same("promise 5: of " + eighths, Clocks.ofEighths(eighths).eighths(0), eighths);
        }
    }

    /** Promise 6: "by its bits, as Double.doubleToLongBits does", of both 0s. */
    private static void promise6BothZeros() {
        Check.same("promise 6: of the plain 0", Clocks.ofEighths(0).bits(0), Double.doubleToLongBits(0.0));
        Check.same("promise 6: of the 0 below", Clocks.ofEighths(Clocks.BELOW).bits(0), Double.doubleToLongBits(-0.0));
    }

    /** Promise 6: "by its bits, as Double.doubleToLongBits does", at the ends, and on both sides of powers of two. */
    private static void promise6EndsOfTheSet() {
        for (int eighths : new int[] {-127, -64, -63, -8, -7, -3, -2, -1, 1, 2, 3, 7, 8, 9, 31, 32, 63, 64, 65, 127}) {
            long due = Double.doubleToLongBits(eighths / 8.0);
            Check.same("promise 6: of " + eighths, Clocks.ofEighths(eighths).bits(0), due);
        }
        Check.same("promise 6: of the most", Clocks.ofEighths(127).bits(0), MOST);
        Check.same("promise 6: of the least", Clocks.ofEighths(-127).bits(0), LEAST);
    }

    /** Promise 7: "Tells a number itself", of both 0s: "the 0 below, which is 0 but for its sign (the double -0.0)". */
    private static void promise7BothZeros() {
        Check.same("promise 7: of the plain 0", Clocks.rawOf(Clocks.ofEighths(0), 0), PLAIN_0);
        Check.same("promise 7: of the 0 below", Clocks.rawOf(Clocks.ofEighths(Clocks.BELOW), 0), BELOW_0);
        Check.isTrue("promise 7: the 0 below is 0", Clocks.ofEighths(Clocks.BELOW).number(0) == 0);
    }

    /** Promise 7: "Returns it", at the ends of the set. */
    private static void promise7EndsOfTheSet() {
        Check.isTrue("promise 7: of the most", Clocks.ofEighths(127).number(0) == 15.875);
        Check.isTrue("promise 7: of the least", Clocks.ofEighths(-127).number(0) == -15.875);
        Check.isTrue("promise 7: of one eighth", Clocks.ofEighths(1).number(0) == 0.125);
        Check.isTrue("promise 7: of one eighth below 0", Clocks.ofEighths(-1).number(0) == -0.125);
    }
}
