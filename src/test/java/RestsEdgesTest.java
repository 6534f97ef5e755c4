import java.util.List;

/**
 * Promises 8 to 13, and what the rest of x by y is: each sentence that names a boundary in a test of its own. The
 * figures are eighths.
 */
public final class RestsEdgesTest {
    private static final int BELOW = Clocks.BELOW;
    private static final List<Remainder> BOTH_RESTS = List.of(
            new Remainder("promise 8 rest", Nearestclock::rest),
            new Remainder("promise 9 restToo", Nearestclock::restToo));
    private static final Remainder CUT = new Remainder("promise 12 cut", Nearestclock::cut);

    /** A call that puts what is left of x by y into a place. */
    private interface Left {
        long of(Nearestclock clock, int to, int x, int y);
    }

    private record Remainder(String name, Left call) {
        /** Looks at the answer, what is kept over either 0, and that x and y stay. */
        void leaves(int x, int y, int due) {
            String what = name + " of " + Clocks.nameOf(x) + " by " + y;
            Nearestclock clock = Clocks.ofEighths(x, y, 0, BELOW);
            for (int to = 2; to < 4; to++) {
                Check.same(what, call.of(clock, to, 0, 1), Clocks.bitsOf(due));
                Check.same(what + ": kept", clock.bits(to), Clocks.bitsOf(due));
                Check.same(what + ": itself", Clocks.rawOf(clock, to), Clocks.bitsOf(due));
            }
            Check.same(what + ": x", clock.bits(0), Clocks.bitsOf(x));
            Check.same(what + ": y", clock.bits(1), Clocks.bitsOf(y));
        }

        /** The same by y and by -y. */
        void leavesByBoth(int x, int y, int due) {
            leaves(x, y, due);
            leaves(x, -y, due);
        }
    }

    private RestsEdgesTest() {
    }

    public static void main(String[] args) {
        for (Remainder rest : BOTH_RESTS) {
            promises8And9NearestWholeNumber(rest);
            promises8And9TheEvenOneOfTwo(rest);
            promises8And9SignOfZero(rest);
            promises8And9EndsOfTheSet(rest);
            promises8And9OneOfTheTwo(rest);
            termsRestOfEveryTwo(rest);
        }
        termsAnyDivisorButTheTwoZeros();
        promise10BesideTheMiddle();
        promise10TheEvenOneOfTwo();
        promise10BelowZeroAsWell();
        promise10OfEitherZeroAndAtTheEnds();
        promise11JustInTheMiddle();
        promise11BesideTheMiddle();
        promise11OfEitherZero();
        promise12CutOffTowardZero();
        promise12SignOfZero();
        promise12OneOfTheTwo();
        promise13MinusOneZeroOrOne();
        promise13InTheMiddle();
        promise13SignsOfXAndY();
        Check.end(RestsEdgesTest.class);
    }

    /** Terms: "n being the whole number nearest to x / y", one eighth to either side of the middle. */
    private static void promises8And9NearestWholeNumber(Remainder rest) {
        rest.leavesByBoth(3, 8, 3);
        rest.leavesByBoth(5, 8, -3);
        rest.leavesByBoth(-3, 8, -3);
        rest.leavesByBoth(-5, 8, 3);
        rest.leavesByBoth(11, 8, 3);
        rest.leavesByBoth(13, 8, -3);
        rest.leavesByBoth(-11, 8, -3);
        rest.leavesByBoth(-13, 8, 3);
        rest.leavesByBoth(63, 127, 63);
        rest.leavesByBoth(64, 127, -63);
        rest.leavesByBoth(-64, 127, 63);
    }

    /** Terms: "and the even one of two that are as near": a rest that lies just in the middle, to either side. */
    private static void promises8And9TheEvenOneOfTwo(Remainder rest) {
        rest.leavesByBoth(4, 8, 4);
        rest.leavesByBoth(-4, 8, -4);
        rest.leavesByBoth(12, 8, -4);
        rest.leavesByBoth(-12, 8, 4);
        rest.leavesByBoth(20, 8, 4);
        rest.leavesByBoth(-20, 8, -4);
        rest.leavesByBoth(28, 8, -4);
        rest.leavesByBoth(1, 2, 1);
        rest.leavesByBoth(3, 2, -1);
        rest.leavesByBoth(127, 2, -1);
        rest.leavesByBoth(-127, 2, 1);
        rest.leavesByBoth(125, 2, 1);
        rest.leavesByBoth(63, 126, 63);
        rest.leavesByBoth(-63, 126, -63);
    }

    /** Terms: "and where it is 0 it has the sign of x", of both 0s, too. */
    private static void promises8And9SignOfZero(Remainder rest) {
        rest.leavesByBoth(16, 8, 0);
        rest.leavesByBoth(-16, 8, BELOW);
        rest.leavesByBoth(24, 8, 0);
        rest.leavesByBoth(-24, 8, BELOW);
        rest.leavesByBoth(0, 8, 0);
        rest.leavesByBoth(BELOW, 8, BELOW);
        rest.leavesByBoth(0, 127, 0);
        rest.leavesByBoth(BELOW, 127, BELOW);
        rest.leavesByBoth(127, 127, 0);
        rest.leavesByBoth(-127, 127, BELOW);
    }

    /** "The set.": "for a whole n from -127 to 127": both ends as x and as y. */
    private static void promises8And9EndsOfTheSet(Remainder rest) {
        rest.leavesByBoth(127, 1, 0);
        rest.leavesByBoth(-127, 1, BELOW);
        rest.leavesByBoth(1, 127, 1);
        rest.leavesByBoth(-1, 127, -1);
        rest.leavesByBoth(127, 126, 1);
        rest.leavesByBoth(-127, 126, -1);
        rest.leavesByBoth(126, 127, -1);
        rest.leavesByBoth(-126, 127, 1);
    }

    /** Promises 8 and 9: "The place may be one of the two." */
    private static void promises8And9OneOfTheTwo(Remainder rest) {
        intoOneOfTheTwo(rest, 12, 8, -4);
        intoOneOfTheTwo(rest, 12, -8, -4);
        intoOneOfTheTwo(rest, -16, 8, BELOW);
        intoOneOfTheTwo(rest, 16, -8, 0);
        intoOneOfTheTwo(rest, BELOW, -8, BELOW);
        for (int each : new int[] {127, -127, 1, -1}) {
            Nearestclock clock = Clocks.ofEighths(each);
            int due = each < 0 ? BELOW : 0;
            Check.same(rest.name() + " of one place into it", rest.call().of(clock, 0, 0, 0), Clocks.bitsOf(due));
            Check.same(rest.name() + " of one place: kept", clock.bits(0), Clocks.bitsOf(due));
        }
    }

    private static void intoOneOfTheTwo(Remainder remainder, int x, int y, int due) {
        for (int to = 0; to < 2; to++) {
            String what = remainder.name() + " of " + Clocks.nameOf(x) + " by " + y + " into " + to;
            Nearestclock clock = Clocks.ofEighths(x, y);
            Check.same(what, remainder.call().of(clock, to, 0, 1), Clocks.bitsOf(due));
            Check.same(what + ": kept", clock.bits(to), Clocks.bitsOf(due));
            Check.same(what + ": the other", clock.bits(1 - to), Clocks.bitsOf(to == 0 ? y : x));
        }
    }

    private static void termsRestOfEveryTwo(Remainder rest) {
        for (double x : Clocks.set()) {
            for (double y : Clocks.divisors()) {
                Nearestclock clock = Clocks.of(x, y, -x, -y);
                termsNeverMoreThanHalf(rest, clock, x, y);
                termsSameByBothSigns(rest, clock);
                termsOfXTurned(rest, clock);
                termsRestOfARest(rest, clock);
                termsPercentOrOnceMore(rest, clock, x, y);
            }
        }
    }

    /** Terms: "it is never more than half of y to either side". */
    private static void termsNeverMoreThanHalf(Remainder rest, Nearestclock clock, double x, double y) {
        rest.call().of(clock, 11, 0, 1);
        boolean isAtMostHalf = 2 * Math.abs(clock.number(11)) <= Math.abs(y);
        Check.isTrue(rest.name() + " of " + x + " by " + y + " is at most half of y", isAtMostHalf);
    }

    /** Terms: "So the rest is the same by y and by -y", each bit of it. */
    private static void termsSameByBothSigns(Remainder rest, Nearestclock clock) {
        long byY = rest.call().of(clock, 11, 0, 1);
        Check.same(rest.name() + " by -y", rest.call().of(clock, 11, 0, 3), byY);
    }

    /** Terms: "that of -x is that of x turned", a 0, too. */
    private static void termsOfXTurned(Remainder rest, Nearestclock clock) {
        rest.call().of(clock, 11, 0, 1);
        Check.same(rest.name() + " of -x", rest.call().of(clock, 10, 2, 1), clock.turn(11));
    }

    /** Terms: "and the rest of a rest is that rest". */
    private static void termsRestOfARest(Remainder rest, Nearestclock clock) {
        long once = rest.call().of(clock, 11, 0, 1);
        Check.same(rest.name() + " of a rest", rest.call().of(clock, 11, 11, 1), once);
    }

    /** Terms: "it is what Java's % leaves, or that and y once more to either side." */
    private static void termsPercentOrOnceMore(Remainder rest, Nearestclock clock, double x, double y) {
        rest.call().of(clock, 11, 0, 1);
        double more = Math.abs(clock.number(11) - x % y);
        Check.isTrue(rest.name() + " of " + x + " by " + y + " is %'s or y more", more == 0 || more == Math.abs(y));
    }

    /** "The set.": "To divide, a number may be any of the set but the two 0s"; the two 0s: RefusalsTest. */
    private static void termsAnyDivisorButTheTwoZeros() {
        for (int y = -127; y <= 127; y++) {
            if (y != 0) {
                Check.same("any divisor, " + y, Clocks.ofEighths(y, y).times(0, 1), 1);
            }
        }
    }

    private static void times(int x, int y, int due) {
        Check.same("promise 10: times of " + Clocks.nameOf(x) + " by " + y, Clocks.ofEighths(x, y).times(0, 1), due);
    }

    /** Promise 10: "how often y was taken from x as its rest was left", one eighth to either side of the middle. */
    private static void promise10BesideTheMiddle() {
        times(3, 8, 0);
        times(5, 8, 1);
        times(11, 8, 1);
        times(13, 8, 2);
        times(63, 127, 0);
        times(64, 127, 1);
    }

    /** Promise 10 and terms: "the even one of two that are as near". */
    private static void promise10TheEvenOneOfTwo() {
        times(4, 8, 0);
        times(12, 8, 2);
        times(20, 8, 2);
        times(28, 8, 4);
        times(127, 2, 64);
        times(125, 2, 62);
        times(63, 126, 0);
        times(-4, 8, 0);
        times(-12, -8, 2);
    }

    /** Promise 10: "Returns the whole number n, below 0 as well." */
    private static void promise10BelowZeroAsWell() {
        times(-5, 8, -1);
        times(5, -8, -1);
        times(-5, -8, 1);
        times(-12, 8, -2);
        times(12, -8, -2);
        times(-20, 8, -2);
        times(-127, 2, -64);
        times(-127, -2, 64);
    }

    /** Promise 10 and "The set.": both 0s as x, and both ends. */
    private static void promise10OfEitherZeroAndAtTheEnds() {
        times(0, 8, 0);
        times(BELOW, 8, 0);
        times(BELOW, -1, 0);
        times(127, 1, 127);
        times(-127, 1, -127);
        times(127, -1, -127);
        times(127, 127, 1);
        times(-127, 127, -1);
        times(1, 127, 0);
    }

    private static void isHalf(int x, int y, boolean due) {
        String what = "promise 11: isHalf of " + Clocks.nameOf(x) + " by " + y;
        Check.same(what, Clocks.ofEighths(x, y).isHalf(0, 1) ? 1 : 0, due ? 1 : 0);
        Check.same(what + " turned", Clocks.ofEighths(x, -y).isHalf(0, 1) ? 1 : 0, due ? 1 : 0);
    }

    /** Promise 11: "whether two whole numbers are as near to x / y, so that the rest is just half of y, to one side" */
    private static void promise11JustInTheMiddle() {
        isHalf(4, 8, true);
        isHalf(-4, 8, true);
        isHalf(12, 8, true);
        isHalf(-12, 8, true);
        isHalf(20, 8, true);
        isHalf(1, 2, true);
        isHalf(127, 2, true);
        isHalf(-127, 2, true);
        isHalf(63, 126, true);
    }

    /** Promise 11: the same sentence, one eighth or half of one to either side of the middle. */
    private static void promise11BesideTheMiddle() {
        isHalf(3, 8, false);
        isHalf(5, 8, false);
        isHalf(-3, 8, false);
        isHalf(-5, 8, false);
        isHalf(11, 8, false);
        isHalf(13, 8, false);
        isHalf(63, 127, false);
        isHalf(64, 127, false);
        isHalf(1, 3, false);
        isHalf(2, 3, false);
        isHalf(1, 1, false);
        isHalf(127, 1, false);
        isHalf(8, 8, false);
    }

    /** Promise 11 and "The set.": both 0s as x. */
    private static void promise11OfEitherZero() {
        isHalf(0, 8, false);
        isHalf(BELOW, 8, false);
        isHalf(0, 1, false);
        isHalf(BELOW, 1, false);
    }

    /** Promise 12: "x less m times y, m being x / y cut off toward 0", with signs of both. */
    private static void promise12CutOffTowardZero() {
        CUT.leavesByBoth(7, 8, 7);
        CUT.leavesByBoth(-7, 8, -7);
        CUT.leavesByBoth(9, 8, 1);
        CUT.leavesByBoth(-9, 8, -1);
        CUT.leavesByBoth(12, 8, 4);
        CUT.leavesByBoth(-12, 8, -4);
        CUT.leavesByBoth(15, 8, 7);
        CUT.leavesByBoth(-15, 8, -7);
        CUT.leavesByBoth(126, 127, 126);
        CUT.leavesByBoth(-126, 127, -126);
        CUT.leavesByBoth(127, 126, 1);
        CUT.leavesByBoth(-127, 64, -63);
    }

    /** Promise 12: "where it is 0 it has the sign of x." */
    private static void promise12SignOfZero() {
        CUT.leavesByBoth(8, 8, 0);
        CUT.leavesByBoth(-8, 8, BELOW);
        CUT.leavesByBoth(24, 8, 0);
        CUT.leavesByBoth(-24, 8, BELOW);
        CUT.leavesByBoth(0, 8, 0);
        CUT.leavesByBoth(BELOW, 8, BELOW);
        CUT.leavesByBoth(127, 127, 0);
        CUT.leavesByBoth(-127, 127, BELOW);
        CUT.leavesByBoth(127, 1, 0);
        CUT.leavesByBoth(-127, 1, BELOW);
    }

    /** Promise 12: "to: 0 to 11": the places of x and y are not left out. */
    private static void promise12OneOfTheTwo() {
        intoOneOfTheTwo(CUT, 12, 8, 4);
        intoOneOfTheTwo(CUT, -12, -8, -4);
        intoOneOfTheTwo(CUT, -16, 8, BELOW);
        intoOneOfTheTwo(CUT, BELOW, -8, BELOW);
        Check.same("promise 12: one place into it", Clocks.ofEighths(-5).cut(0, 0, 0), Clocks.bitsOf(BELOW));
    }

    private static void apart(int x, int y, int due) {
        Check.same("promise 13: apart of " + Clocks.nameOf(x) + " by " + y, Clocks.ofEighths(x, y).apart(0, 1), due);
    }

    /** Promise 13: "Returns -1, 0 or 1", one eighth to either side of the middle, and at the ends. */
    private static void promise13MinusOneZeroOrOne() {
        apart(3, 8, 0);
        apart(5, 8, -1);
        apart(7, 8, -1);
        apart(-3, 8, 0);
        apart(-5, 8, 1);
        apart(-7, 8, 1);
        apart(8, 8, 0);
        apart(63, 127, 0);
        apart(64, 127, -1);
        apart(-64, 127, 1);
        apart(127, 1, 0);
        apart(0, 8, 0);
        apart(BELOW, 8, 0);
    }

    /** Promise 13 with a rest just in the middle: the even one of two is that of % or the one beside it. */
    private static void promise13InTheMiddle() {
        apart(4, 8, 0);
        apart(-4, 8, 0);
        apart(12, 8, -1);
        apart(-12, 8, 1);
        apart(20, 8, 0);
        apart(-20, 8, 0);
        apart(28, 8, -1);
        apart(127, 2, -1);
        apart(-127, 2, 1);
        apart(125, 2, 0);
    }

    /** Promise 13: "how often |y| must be added", whatever the sign of y. */
    private static void promise13SignsOfXAndY() {
        apart(5, -8, -1);
        apart(-5, -8, 1);
        apart(12, -8, -1);
        apart(-12, -8, 1);
        apart(20, -8, 0);
        apart(126, -127, -1);
        apart(-126, -127, 1);
    }
}
