/** Promises 8 to 13: every number of the set by every divisor of it, against the library's own remainders. */
public final class RestsTest {
    private RestsTest() {
    }

    public static void main(String[] args) {
        for (double x : Clocks.set()) {
            for (double y : Clocks.divisors()) {
                promise8Rest(x, y);
                promise9RestToo(x, y);
                promise10Times(x, y);
                promise11IsHalf(x, y);
                promise12Cut(x, y);
                promise13Apart(x, y);
            }
        }
        allIntoOneOfTheTwo();
        ofANumberByItself();
        Check.end(RestsTest.class);
    }

    private static String by(String what, double x, double y) {
        return what + " of " + x + " by " + y;
    }

    private static void left(String what, Nearestclock clock, long got, double x, double y, double due) {
        Check.same(by(what, x, y), got, Oracle.bits(due));
        Check.same(by("what is kept after " + what, x, y), clock.bits(11), Oracle.bits(due));
        Check.same(by("x after " + what, x, y), clock.bits(0), Oracle.bits(x));
        Check.same(by("y after " + what, x, y), clock.bits(1), Oracle.bits(y));
    }

    private static void promise8Rest(double x, double y) {
        Nearestclock clock = Clocks.of(x, y);
        left("rest", clock, clock.rest(11, 0, 1), x, y, StrictMath.IEEEremainder(x, y));
    }

    private static void promise9RestToo(double x, double y) {
        Nearestclock clock = Clocks.of(x, y);
        left("restToo", clock, clock.restToo(11, 0, 1), x, y, Math.IEEEremainder(x, y));
    }

    private static void promise10Times(double x, double y) {
        int times = Clocks.of(x, y).times(0, 1);
        Check.same(by("times", x, y), times, Oracle.times(x, y));
        Check.isTrue(by("x less times y is the rest", x, y), x - times * y == Oracle.rest(x, y));
    }

    private static void promise11IsHalf(double x, double y) {
        boolean isHalf = Clocks.of(x, y).isHalf(0, 1);
        Check.isTrue(by("isHalf", x, y), isHalf == Oracle.isHalf(x, y));
        Check.isTrue(by("isHalf and rest", x, y), isHalf == (2 * Math.abs(Oracle.rest(x, y)) == Math.abs(y)));
    }

    private static void promise12Cut(double x, double y) {
        Nearestclock clock = Clocks.of(x, y);
        left("cut", clock, clock.cut(11, 0, 1), x, y, x % y);
    }

    private static void promise13Apart(double x, double y) {
        Check.same(by("apart", x, y), Clocks.of(x, y).apart(0, 1), Oracle.apart(x, y));
    }

    private static void allIntoOneOfTheTwo() {
        for (double x : Clocks.some()) {
            for (double y : Clocks.divisors()) {
                for (int to = 0; to < 2; to++) {
                    Nearestclock rest = Clocks.of(x, y);
                    Check.same(by("rest into " + to, x, y), rest.rest(to, 0, 1), Oracle.bits(Oracle.rest(x, y)));
                    Check.same(by("kept by rest", x, y), rest.bits(to), Oracle.bits(Oracle.rest(x, y)));
                    Nearestclock too = Clocks.of(x, y);
                    Check.same(by("restToo into " + to, x, y), too.restToo(to, 0, 1), Oracle.bits(Oracle.rest(x, y)));
                    Check.same(by("kept by restToo", x, y), too.bits(to), Oracle.bits(Oracle.rest(x, y)));
                    Nearestclock cut = Clocks.of(x, y);
                    Check.same(by("cut into " + to, x, y), cut.cut(to, 0, 1), Oracle.bits(x % y));
                    Check.same(by("kept by cut", x, y), cut.bits(to), Oracle.bits(x % y));
                }
            }
        }
    }

    private static void ofANumberByItself() {
        for (double x : Clocks.divisors()) {
            Nearestclock clock = Clocks.of(x);
            Check.same("times of " + x + " by itself", clock.times(0, 0), 1);
            Check.isTrue("isHalf of " + x + " by itself", !clock.isHalf(0, 0));
            Check.same("apart of " + x + " by itself", clock.apart(0, 0), 0);
            Check.same("rest of " + x + " by itself", clock.rest(0, 0, 0), Oracle.bits(x < 0 ? -0.0 : 0.0));
        }
    }
}
