/** Promises 14 to 21: every number of the set by every divisor of it, against whole numbers of any size. */
public final class ResiduesTest {
    private ResiduesTest() {
    }

    public static void main(String[] args) {
        for (double x : Clocks.set()) {
            for (double y : Clocks.divisors()) {
                promise14Residue(x, y);
                promise17Many(x, y);
                promise19Power(x, y);
                promise20Inverse(x, y);
                promise21Order(x, y);
                for (double z : Clocks.some()) {
                    promise15Plus(x, z, y);
                    promise16Minus(x, z, y);
                    promise18Product(x, z, y);
                }
            }
        }
        allOnOnePlace();
        Check.end(ResiduesTest.class);
    }

    private static void left(String what, Nearestclock clock, long got, double due) {
        Check.same(what, got, Oracle.bits(due));
        Check.same("what is kept after " + what, clock.bits(11), Oracle.bits(due));
    }

    private static void promise14Residue(double x, double y) {
        Nearestclock clock = Clocks.of(x, y);
        left("residue", clock, clock.residue(11, 0, 1), Oracle.residue(Oracle.eighths(x), y));
    }

    private static void promise15Plus(double x, double z, double y) {
        Nearestclock clock = Clocks.of(x, y, z);
        left("plus", clock, clock.plus(11, 0, 2, 1), Oracle.residue(Oracle.eighths(x + z), y));
    }

    private static void promise16Minus(double x, double z, double y) {
        Nearestclock clock = Clocks.of(x, y, z);
        left("minus", clock, clock.minus(11, 0, 2, 1), Oracle.residue(Oracle.eighths(x - z), y));
    }

    private static void promise17Many(double x, double y) {
        Nearestclock clock = Clocks.of(x, y);
        int[] often = {0, 1, -1, 2, -2, 7, 127, 128, -1000, 16909320, Integer.MAX_VALUE, Integer.MIN_VALUE};
        for (int times : often) {
            left("many", clock, clock.many(11, times, 0, 1), Oracle.residue((long) times * Oracle.eighths(x), y));
        }
    }

    private static void promise18Product(double x, double z, double y) {
        Nearestclock clock = Clocks.of(x, y, z);
        double due = Oracle.residue((long) Oracle.eighths(x) * Oracle.eighths(z), y);
        left("product", clock, clock.product(11, 0, 2, 1), due);
    }

    private static void promise19Power(double x, double y) {
        Nearestclock clock = Clocks.of(x, y);
        for (int exponent = 0; exponent < 8; exponent++) {
            left("power", clock, clock.power(11, 0, exponent, 1), Oracle.power(x, exponent, y));
        }
        if (Oracle.eighths(x) % 7 == 0) {
            left("power 999", clock, clock.power(11, 0, 999, 1), Oracle.power(x, 999, y));
            left("power 1000", clock, clock.power(11, 0, 1000, 1), Oracle.power(x, 1000, y));
        }
    }

    private static void promise20Inverse(double x, double y) {
        Nearestclock clock = Clocks.of(x, y);
        Double due = Oracle.inverse(x, y);
        if (due == null) {
            Check.refusedBy(clock, "inverse of " + x + " by " + y, ArithmeticException.class, c -> c.inverse(11, 0, 1));
        } else {
            left("inverse of " + x + " by " + y, clock, clock.inverse(11, 0, 1), due);
        }
    }

    private static void promise21Order(double x, double y) {
        Check.same("order of " + x + " by " + y, Clocks.of(x, y).order(0, 1), Oracle.order(x, y));
    }

    /** The place to put into may be x's, z's and y's as well. */
    private static void allOnOnePlace() {
        for (double x : Clocks.some()) {
            if (x != 0) {
                long one = Oracle.bits(Oracle.residue(1, x));
                Check.same("residue on one place", Clocks.of(x).residue(0, 0, 0), 0);
                Check.same("plus on one place", Clocks.of(x).plus(0, 0, 0, 0), 0);
                Check.same("minus on one place", Clocks.of(x).minus(0, 0, 0, 0), 0);
                Check.same("many on one place", Clocks.of(x).many(0, -3, 0, 0), 0);
                Check.same("product on one place", Clocks.of(x).product(0, 0, 0, 0), 0);
                Check.same("power 0 on one place", Clocks.of(x).power(0, 0, 0, 0), one);
                Check.same("order on one place", Clocks.of(x).order(0, 0), 1);
            }
            for (double y : Clocks.divisors()) {
                intoOneOfTheTwo(x, y);
            }
        }
    }

    private static void intoOneOfTheTwo(double x, double y) {
        int eighths = Oracle.eighths(x);
        Double inverse = Oracle.inverse(x, y);
        for (int to = 0; to < 2; to++) {
            into("residue", Clocks.of(x, y).residue(to, 0, 1), Oracle.residue(eighths, y));
            into("plus", Clocks.of(x, y).plus(to, 0, 0, 1), Oracle.residue(2 * eighths, y));
            into("minus", Clocks.of(x, y).minus(to, 1, 0, 1), Oracle.residue(-eighths, y));
            into("many", Clocks.of(x, y).many(to, 9, 0, 1), Oracle.residue(9 * eighths, y));
            into("product", Clocks.of(x, y).product(to, 0, 0, 1), Oracle.residue(eighths * eighths, y));
            into("power", Clocks.of(x, y).power(to, 0, 5, 1), Oracle.power(x, 5, y));
            if (inverse != null) {
                into("inverse", Clocks.of(x, y).inverse(to, 0, 1), inverse);
            }
        }
    }

    private static void into(String what, long got, double due) {
        Check.same(what + " into one of two", got, Oracle.bits(due));
    }
}
