import java.util.List;

/** Promises 22 to 27: every two numbers of the set. */
public final class MeasuresTest {
    private static final Class<IndexOutOfBoundsException> NONE = IndexOutOfBoundsException.class;

    private MeasuresTest() {
    }

    public static void main(String[] args) {
        for (double x : Clocks.set()) {
            for (double z : Clocks.set()) {
                promise22Measure(x, z);
                promise23Steps(x, z);
                promises24To27Digits(x, z);
            }
        }
        onePlace();
        onlyDigitsChangesTheRow();
        Check.end(MeasuresTest.class);
    }

    private static String of(String what, double x, double z) {
        return what + " of " + x + " and " + z;
    }

    private static void promise22Measure(double x, double z) {
        Nearestclock clock = Clocks.of(x, z);
        long due = Oracle.bits(Oracle.measure(x, z));
        Check.same(of("measure", x, z), clock.measure(11, 0, 1), due);
        Check.same(of("kept by measure", x, z), clock.bits(11), due);
        Check.same(of("measure into x", x, z), clock.measure(0, 0, 1), due);
        Check.same(of("measure into z", x, z), Clocks.of(x, z).measure(1, 0, 1), due);
    }

    private static void promise23Steps(double x, double z) {
        int steps = Clocks.of(x, z).steps(0, 1);
        Check.same(of("steps", x, z), steps, Oracle.digits(x, z).size());
        Check.isTrue(of("at most seven steps", x, z), steps <= 7);
    }

    private static void promises24To27Digits(double x, double z) {
        Nearestclock clock = Clocks.of(x, z);
        if (z == 0) {
            Check.refusedBy(clock, of("digits", x, z), ArithmeticException.class, c -> c.digits(0, 1));
            return;
        }
        List<Integer> due = Oracle.digits(x, z);
        int many = due.size();
        Check.same(of("digits", x, z), clock.digits(0, 1), many);
        for (int index = 0; index < many; index++) {
            Check.same(of("digit " + index, x, z), clock.digit(index), due.get(index));
        }
        for (int first = 0; first <= many; first++) {
            Check.same(of("above(" + first + ")", x, z), clock.above(first), Oracle.above(due, first));
            Check.same(of("below(" + first + ")", x, z), clock.below(first), Oracle.below(due, first));
        }
        Check.isTrue(of("the share", x, z), clock.above(many) * z == clock.below(many) * x);
        Check.refusedBy(clock, of("digit(" + many + ")", x, z), NONE, c -> c.digit(many));
        Check.refusedBy(clock, of("above(" + (many + 1) + ")", x, z), NONE, c -> c.above(many + 1));
        Check.refusedBy(clock, of("below(" + (many + 1) + ")", x, z), NONE, c -> c.below(many + 1));
    }

    private static void onePlace() {
        for (double x : Clocks.set()) {
            Nearestclock clock = Clocks.of(x);
            Check.same("steps of " + x + " and itself", clock.steps(0, 0), x == 0 ? 0 : 1);
            if (x != 0) {
                Check.same("digits of " + x + " and itself", clock.digits(0, 0), 1);
                Check.same("the digit of " + x + " and itself", clock.digit(0), 1);
            }
            Check.same("measure of " + x + " and itself", clock.measure(0, 0, 0), Oracle.bits(Math.abs(x)));
        }
    }

    private static void onlyDigitsChangesTheRow() {
        Nearestclock clock = Clocks.filled();
        List<Long> row = Clocks.digitsOf(clock);
        clock.put(0, 7);
        clock.steps(4, 9);
        clock.measure(2, 4, 9);
        clock.order(4, 9);
        clock.inverse(3, 4, 9);
        clock.rest(1, 4, 9);
        clock.isTrue();
        clock.putBelow(1);
        clock.turn(0);
        Check.isTrue("the row of digits stays", row.equals(Clocks.digitsOf(clock)));
        Check.same("above of the row that stays", clock.above(4), 100);
        Check.same("below of the row that stays", clock.below(4), 37);
    }
}
