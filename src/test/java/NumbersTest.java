/** Promises 1 to 7: every number of the set in every place. */
public final class NumbersTest {
    private NumbersTest() {
    }

    public static void main(String[] args) {
        promise1ObjectsShareNothing();
        promise2Put();
        promise3PutBelow();
        promise4Turn();
        promises5To7Tell();
        Check.end(NumbersTest.class);
    }

    private static void promise1ObjectsShareNothing() {
        Nearestclock one = Clocks.filled();
        Nearestclock other = new Nearestclock();
        Check.same("a second object's place", other.bits(0), 0);
        other.put(0, -5);
        other.digits(0, 0);
        Check.same("the first object's place", one.eighths(0), 100);
        Check.same("the first object's digits", Clocks.digitsOf(one).size(), 4);
    }

    private static void promise2Put() {
        for (int place = 0; place < Clocks.PLACES; place++) {
            Nearestclock clock = new Nearestclock();
            long before = 0;
            for (int eighths = -Clocks.LARGEST; eighths <= Clocks.LARGEST; eighths++) {
                Check.same("put(" + place + ", " + eighths + ")", clock.put(place, eighths), before);
                before = Oracle.bits(eighths / 8.0);
            }
            Check.same("the bits after put", clock.bits(place), Oracle.bits(127 / 8.0));
            Check.same("put changes no other place", clock.sum(), 127);
        }
    }

    private static void promise3PutBelow() {
        for (int place = 0; place < Clocks.PLACES; place++) {
            Nearestclock clock = Clocks.filled();
            long before = clock.bits(place);
            int left = clock.sum() - clock.eighths(place);
            Check.same("putBelow(" + place + ")", clock.putBelow(place), before);
            Check.same("its bits", clock.bits(place), Oracle.bits(-0.0));
            Check.same("its eighths", clock.eighths(place), 0);
            Check.same("putBelow changes no other place", clock.sum(), left);
            Check.same("putBelow once more", clock.putBelow(place), Oracle.bits(-0.0));
        }
    }

    private static void promise4Turn() {
        for (double number : Clocks.set()) {
            for (int place = 0; place < Clocks.PLACES; place++) {
                Nearestclock clock = new Nearestclock();
                Clocks.place(clock, place, number);
                Check.same("turn of " + number, clock.turn(place), Oracle.bits(-number));
                Check.same("the bits after turn of " + number, clock.bits(place), Oracle.bits(-number));
                Check.same("the eighths after turn of " + number, clock.eighths(place), -Oracle.eighths(number));
                Check.same("turn back of " + number, clock.turn(place), Oracle.bits(number));
            }
        }
    }

    private static void promises5To7Tell() {
        for (double number : Clocks.set()) {
            for (int place = 0; place < Clocks.PLACES; place++) {
                Nearestclock clock = new Nearestclock();
                Clocks.place(clock, place, number);
                Check.same("eighths of " + number, clock.eighths(place), Oracle.eighths(number));
                Check.same("bits of " + number, clock.bits(place), Oracle.bits(number));
                Check.same("number " + number, Oracle.bits(clock.number(place)), Oracle.bits(number));
            }
        }
    }
}
