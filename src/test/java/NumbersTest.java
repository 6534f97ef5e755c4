/** Promises 1 to 7. */
public final class NumbersTest {
    private static final Class<IllegalArgumentException> ILLEGAL = IllegalArgumentException.class;

    private NumbersTest() {
    }

    public static void main(String[] args) {
        promise1NewObject();
        promise1ObjectsShareNothing();
        promise2Put();
        promise2PutRefuses();
        promise3PutBelow();
        promise4Turn();
        promises5To7Tell();
        Check.end(NumbersTest.class);
    }

    private static void promise1NewObject() {
        Nearestclock clock = new Nearestclock();
        for (int place = 0; place < Clocks.PLACES; place++) {
            Check.same("bits of a new object", clock.bits(place), 0);
            Check.same("eighths of a new object", clock.eighths(place), 0);
            Check.same("number of a new object", Double.doubleToRawLongBits(clock.number(place)), 0);
        }
        Check.same("above(0) of a new object", clock.above(0), 1);
        Check.same("below(0) of a new object", clock.below(0), 0);
        Class<IndexOutOfBoundsException> none = IndexOutOfBoundsException.class;
        Check.refusedBy(clock, "digit(0) of a new object", none, c -> c.digit(0));
        Check.refusedBy(clock, "above(1) of a new object", none, c -> c.above(1));
        Check.refusedBy(clock, "below(1) of a new object", none, c -> c.below(1));
        Check.same("sum of a new object", clock.sum(), 0);
    }

    private static void promise1ObjectsShareNothing() {
        Nearestclock one = Clocks.filled();
        Nearestclock other = new Nearestclock();
        Check.same("a second object's place", other.bits(0), 0);
        other.put(0, -5);
        other.digits(0, 0);
        Check.same("the first object's place", one.eighths(0), 100);
        Check.same("the first object's digits", Clocks.digitsOf(one).size(), 4);
    }

    private static void promise2Put() {
        for (int place = 0; place < Clocks.PLACES; place++) {
            Nearestclock clock = new Nearestclock();
            long before = 0;
            for (int eighths = -Clocks.LARGEST; eighths <= Clocks.LARGEST; eighths++) {
                Check.same("put(" + place + ", " + eighths + ")", clock.put(place, eighths), before);
                before = Oracle.bits(eighths / 8.0);
            }
            Check.same("the bits after put", clock.bits(place), Oracle.bits(127 / 8.0));
            Check.same("put changes no other place", clock.sum(), 127);
        }
        Nearestclock clock = Clocks.filled();
        Check.same("put over the 0 below", clock.put(Clocks.ZERO_BELOW, 0), Oracle.bits(-0.0));
        Check.same("put of 0 is the plain one", clock.bits(Clocks.ZERO_BELOW), 0);
    }

    private static void promise2PutRefuses() {
        Check.refusesNoPlaces("put", new int[] {0}, (c, p) -> c.put(p[0], 1));
        Check.refusesNoPlaces("put of too many", new int[] {}, (c, p) -> c.put(12, 128));
        for (int eighths : new int[] {128, -128, 129, Integer.MAX_VALUE, Integer.MIN_VALUE}) {
            Check.refused("put(11, " + eighths + ")", ILLEGAL, c -> c.put(11, eighths));
            Check.refused("put(-1, " + eighths + ")", IndexOutOfBoundsException.class, c -> c.put(-1, eighths));
        }
    }

    private static void promise3PutBelow() {
        for (int place = 0; place < Clocks.PLACES; place++) {
            Nearestclock clock = Clocks.filled();
            long before = clock.bits(place);
            int left = clock.sum() - clock.eighths(place);
            Check.same("putBelow(" + place + ")", clock.putBelow(place), before);
            Check.same("its bits", clock.bits(place), Oracle.bits(-0.0));
            Check.same("its eighths", clock.eighths(place), 0);
            Check.same("putBelow changes no other place", clock.sum(), left);
            Check.same("putBelow once more", clock.putBelow(place), Oracle.bits(-0.0));
        }
        Check.refusesNoPlaces("putBelow", new int[] {0}, (c, p) -> c.putBelow(p[0]));
    }

    private static void promise4Turn() {
        for (double number : Clocks.set()) {
            for (int place = 0; place < Clocks.PLACES; place++) {
                Nearestclock clock = new Nearestclock();
                Clocks.place(clock, place, number);
                Check.same("turn of " + number, clock.turn(place), Oracle.bits(-number));
                Check.same("the bits after turn of " + number, clock.bits(place), Oracle.bits(-number));
                Check.same("the eighths after turn of " + number, clock.eighths(place), -Oracle.eighths(number));
                Check.same("turn back of " + number, clock.turn(place), Oracle.bits(number));
            }
        }
        Check.refusesNoPlaces("turn", new int[] {0}, (c, p) -> c.turn(p[0]));
    }

    private static void promises5To7Tell() {
        for (double number : Clocks.set()) {
            for (int place = 0; place < Clocks.PLACES; place++) {
                Nearestclock clock = new Nearestclock();
                Clocks.place(clock, place, number);
                Check.same("eighths of " + number, clock.eighths(place), Oracle.eighths(number));
                Check.same("bits of " + number, clock.bits(place), Oracle.bits(number));
                Check.same("number " + number, Oracle.bits(clock.number(place)), Oracle.bits(number));
            }
        }
        Check.refusesNoPlaces("eighths", new int[] {0}, (c, p) -> c.eighths(p[0]));
        Check.refusesNoPlaces("bits", new int[] {0}, (c, p) -> c.bits(p[0]));
        Check.refusesNoPlaces("number", new int[] {0}, (c, p) -> c.number(p[0]));
    }
}
