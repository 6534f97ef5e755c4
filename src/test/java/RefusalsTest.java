import java.util.ArrayList;
import java.util.List;

/**
 * The exceptions of promises 2 to 27, sentence by sentence. Each look has the promise and the sentence in its text,
 * and each refused call is one of which the terms say "A method that throws an exception changes nothing.": all that
 * any call tells is asked before and behind it.
 */
public final class RefusalsTest {
    private static final Class<IndexOutOfBoundsException> NONE = IndexOutOfBoundsException.class;
    private static final Class<IllegalArgumentException> ILLEGAL = IllegalArgumentException.class;
    private static final Class<ArithmeticException> ZERO = ArithmeticException.class;
    private static final String SEVERAL = "If several exceptions apply, the one that is documented first is thrown.";
    private static final int[] ONE = {0};
    private static final int[] TWO = {0, 1};
    private static final int[] THREE = {2, 0, 1};
    private static final int[] FOUR = {2, 0, 3, 1};
    private static final List<Row> PLACED = new ArrayList<>();
    private static final List<Row> DIVISIONS = new ArrayList<>();

    /** A promise whose call names places, that of the divisor last if there is one. */
    private record Row(int promise, String name, int[] good, Check.Call call) {
        String says(String sentence) {
            return "promise " + promise + " " + name + ", \"" + sentence + "\":";
        }
    }

    private RefusalsTest() {
    }

    public static void main(String[] args) {
        promises2To7AndMeasures();
        promises8To21And24();
        PLACED.addAll(DIVISIONS);
        firstAndLastPlace();
        noSuchPlace();
        promise2NotOfTheSet();
        promise19ExponentOutOfRange();
        yIsZero();
        promise20NoSuchResidue();
        promise25NoSuchDigit();
        promises26And27NotSoManyDigits();
        promise2FirstOfTwo();
        placeBeforeZero();
        promise19FirstOfThree();
        promise20PlaceBeforeNoSuchResidue();
        ofANewObject();
        Check.end(RefusalsTest.class);
    }

    private static void promises2To7AndMeasures() {
        PLACED.add(new Row(2, "put", ONE, (c, p) -> c.put(p[0], 1)));
        PLACED.add(new Row(3, "putBelow", ONE, (c, p) -> c.putBelow(p[0])));
        PLACED.add(new Row(4, "turn", ONE, (c, p) -> c.turn(p[0])));
        PLACED.add(new Row(5, "eighths", ONE, (c, p) -> c.eighths(p[0])));
        PLACED.add(new Row(6, "bits", ONE, (c, p) -> c.bits(p[0])));
        PLACED.add(new Row(7, "number", ONE, (c, p) -> c.number(p[0])));
        PLACED.add(new Row(22, "measure", THREE, (c, p) -> c.measure(p[0], p[1], p[2])));
        PLACED.add(new Row(22, "measure of two 0s", new int[] {2, 10, 11}, (c, p) -> c.measure(p[0], p[1], p[2])));
        PLACED.add(new Row(23, "steps", TWO, (c, p) -> c.steps(p[0], p[1])));
        PLACED.add(new Row(23, "steps of two 0s", new int[] {10, 11}, (c, p) -> c.steps(p[0], p[1])));
    }

    private static void promises8To21And24() {
        DIVISIONS.add(new Row(8, "rest", THREE, (c, p) -> c.rest(p[0], p[1], p[2])));
        DIVISIONS.add(new Row(9, "restToo", THREE, (c, p) -> c.restToo(p[0], p[1], p[2])));
        DIVISIONS.add(new Row(10, "times", TWO, (c, p) -> c.times(p[0], p[1])));
        DIVISIONS.add(new Row(11, "isHalf", TWO, (c, p) -> c.isHalf(p[0], p[1])));
        DIVISIONS.add(new Row(12, "cut", THREE, (c, p) -> c.cut(p[0], p[1], p[2])));
        DIVISIONS.add(new Row(13, "apart", TWO, (c, p) -> c.apart(p[0], p[1])));
        DIVISIONS.add(new Row(14, "residue", THREE, (c, p) -> c.residue(p[0], p[1], p[2])));
        DIVISIONS.add(new Row(15, "plus", FOUR, (c, p) -> c.plus(p[0], p[1], p[2], p[3])));
        DIVISIONS.add(new Row(16, "minus", FOUR, (c, p) -> c.minus(p[0], p[1], p[2], p[3])));
        DIVISIONS.add(new Row(17, "many", THREE, (c, p) -> c.many(p[0], 3, p[1], p[2])));
        DIVISIONS.add(new Row(17, "many of none", THREE, (c, p) -> c.many(p[0], 0, p[1], p[2])));
        DIVISIONS.add(new Row(18, "product", FOUR, (c, p) -> c.product(p[0], p[1], p[2], p[3])));
        DIVISIONS.add(new Row(19, "power 0", THREE, (c, p) -> c.power(p[0], p[1], 0, p[2])));
        DIVISIONS.add(new Row(19, "power 3", THREE, (c, p) -> c.power(p[0], p[1], 3, p[2])));
        DIVISIONS.add(new Row(19, "power 1000", THREE, (c, p) -> c.power(p[0], p[1], 1000, p[2])));
        DIVISIONS.add(new Row(20, "inverse", THREE, (c, p) -> c.inverse(p[0], p[1], p[2])));
        DIVISIONS.add(new Row(21, "order", TWO, (c, p) -> c.order(p[0], p[1])));
        DIVISIONS.add(new Row(24, "digits", TWO, (c, p) -> c.digits(p[0], p[1])));
    }

    /** Promises 2 to 24, of each parameter that is a place: "0 to 11". */
    private static void firstAndLastPlace() {
        for (Row row : PLACED) {
            for (int at = 0; at < row.good().length; at++) {
                accepts(row, at, 0);
                accepts(row, at, 11);
            }
        }
    }

    private static void accepts(Row row, int at, int place) {
        int[] places = row.good().clone();
        places[at] = place;
        Nearestclock clock = Clocks.ofEighths(1, 1, 1, 1, 1, 1, 1, 1, 1, 1, 1, 1);
        boolean isTaken = true;
        try {
            row.call().on(clock, places);
        } catch (RuntimeException e) {
            isTaken = false;
        }
        Check.isTrue(row.says("0 to 11") + " place " + place + " as number " + at + " is taken", isTaken);
    }

    /** Promises 2 to 24, of each: "Throws IndexOutOfBoundsException if there is no such place". */
    private static void noSuchPlace() {
        for (Row row : PLACED) {
            String says = row.says("Throws IndexOutOfBoundsException if there is no such place");
            Check.refusesNoPlaces(says, row.good(), row.call());
        }
    }

    /** Promise 2: "Throws IllegalArgumentException if so many eighths are not of the set". */
    private static void promise2NotOfTheSet() {
        for (int eighths : new int[] {-128, 128, -129, 129, -1000, 1000, Integer.MIN_VALUE, Integer.MAX_VALUE}) {
            Check.refused("promise 2: put(0, " + eighths + ")", ILLEGAL, c -> c.put(0, eighths));
            Check.refused("promise 2: put(11, " + eighths + ")", ILLEGAL, c -> c.put(11, eighths));
        }
    }

    /** Promise 19: "Throws IllegalArgumentException if the exponent is out of range". */
    private static void promise19ExponentOutOfRange() {
        for (int exponent : new int[] {-1, 1001, -2, 1002, Integer.MIN_VALUE, Integer.MAX_VALUE}) {
            Check.refused("promise 19: power " + exponent, ILLEGAL, c -> c.power(2, 0, exponent, 1));
            Check.refused("promise 19: 0 to the " + exponent, ILLEGAL, c -> c.power(2, Clocks.ZERO, exponent, 1));
        }
    }

    /** Promises 8 to 21, of each: "Throws ArithmeticException if y is 0, of either sign"; promise 24: "if z is 0". */
    private static void yIsZero() {
        for (Row row : DIVISIONS) {
            for (int zero : new int[] {Clocks.ZERO, Clocks.ZERO_BELOW}) {
                int[] places = row.good().clone();
                places[places.length - 1] = zero;
                String says = row.says("Throws ArithmeticException if y is 0, of either sign") + " place " + zero;
                Check.refused(says, ZERO, clock -> row.call().on(clock, places));
                // A 0 as x as well: 0 by 0.
                places[places.length - 2] = Clocks.ZERO;
                Check.refused(says + ", 0 by 0", ZERO, clock -> row.call().on(clock, places));
            }
        }
    }

    /** Promise 20: "Throws ArithmeticException if .. there is no such residue". */
    private static void promise20NoSuchResidue() {
        int[][] withoutInverse = {{6, 8}, {-6, 8}, {4, 8}, {4, -8}, {0, 8}, {Clocks.BELOW, 8}, {8, 8}, {0, 2}, {2, 2},
                {127, 127}, {127, -127}, {0, 127}, {Clocks.BELOW, -127}, {126, 124}, {-63, 126}, {64, 126}};
        for (int[] each : withoutInverse) {
            String what = "promise 20: inverse of " + Clocks.nameOf(each[0]) + " by " + each[1];
            Check.refusedBy(Clocks.ofEighths(each), what, ZERO, c -> c.inverse(11, 0, 1));
            Check.refusedBy(Clocks.ofEighths(each), what + " into x", ZERO, c -> c.inverse(0, 0, 1));
        }
        Check.refused("promise 20: inverse of 6 by 8", ZERO, c -> c.inverse(0, 8, 3));
    }

    /** Promise 25: "from 0", "Throws IndexOutOfBoundsException if there is no such digit". */
    private static void promise25NoSuchDigit() {
        for (int index : new int[] {-1, 4, 5, 6, 7, 8, Integer.MIN_VALUE, Integer.MAX_VALUE}) {
            Check.refused("promise 25: digit(" + index + ") of four", NONE, c -> c.digit(index));
        }
        Check.same("promise 25: the first digit of four", Clocks.filled().digit(0), 3);
        Check.same("promise 25: the last digit of four", Clocks.filled().digit(3), 4);
    }

    /** Promises 26 and 27: "Throws IndexOutOfBoundsException if there are not so many digits". */
    private static void promises26And27NotSoManyDigits() {
        for (int many : new int[] {-1, 5, 6, 7, 8, Integer.MIN_VALUE, Integer.MAX_VALUE}) {
            Check.refused("promise 26: above(" + many + ") of four", NONE, c -> c.above(many));
            Check.refused("promise 27: below(" + many + ") of four", NONE, c -> c.below(many));
        }
        Check.same("promise 26: above of all four", Clocks.filled().above(4), 100);
        Check.same("promise 27: below of all four", Clocks.filled().below(4), 37);
    }

    /** Promise 2, terms: the sentence in SEVERAL. */
    private static void promise2FirstOfTwo() {
        for (int noPlace : new int[] {-1, 12}) {
            for (int eighths : new int[] {-128, 128, Integer.MIN_VALUE}) {
                String what = "promise 2: \"" + SEVERAL + "\" put(" + noPlace + ", " + eighths + ")";
                Check.refused(what, NONE, c -> c.put(noPlace, eighths));
            }
        }
    }

    /** Promises 8 to 21 and 24, terms: the sentence in SEVERAL, where y is 0 and another place is none. */
    private static void placeBeforeZero() {
        for (Row row : DIVISIONS) {
            for (int zero : new int[] {Clocks.ZERO, Clocks.ZERO_BELOW}) {
                for (int at = 0; at < row.good().length - 1; at++) {
                    for (int noPlace : new int[] {-1, 12}) {
                        int[] places = row.good().clone();
                        places[places.length - 1] = zero;
                        places[at] = noPlace;
                        String what = row.says(SEVERAL) + " by 0 and of place " + noPlace + " as number " + at;
                        Check.refused(what, NONE, clock -> row.call().on(clock, places));
                    }
                }
            }
        }
    }

    /** Promise 19, terms: the sentence in SEVERAL: the place before the exponent, the exponent before the 0. */
    private static void promise19FirstOfThree() {
        for (int exponent : new int[] {-1, 1001}) {
            String what = "promise 19: \"" + SEVERAL + "\" power " + exponent;
            for (int zero : new int[] {Clocks.ZERO, Clocks.ZERO_BELOW}) {
                Check.refused(what + " by 0", ILLEGAL, c -> c.power(2, 0, exponent, zero));
                Check.refused(what + " by 0 into no place", NONE, c -> c.power(12, 0, exponent, zero));
                Check.refused(what + " by 0 of no place", NONE, c -> c.power(2, -1, exponent, zero));
            }
            Check.refused(what + " into no place", NONE, c -> c.power(-1, 0, exponent, 1));
            Check.refused(what + " of no place", NONE, c -> c.power(2, 12, exponent, 1));
            Check.refused(what + " by no place", NONE, c -> c.power(2, 0, exponent, 12));
        }
    }

    /** Promise 20, terms: the sentence in SEVERAL, where there is no such residue. */
    private static void promise20PlaceBeforeNoSuchResidue() {
        String what = "promise 20: \"" + SEVERAL + "\" inverse of 6 by 8 into place ";
        for (int noPlace : new int[] {-1, 12}) {
            Check.refused(what + noPlace, NONE, c -> c.inverse(noPlace, 8, 3));
        }
    }

    /** Terms: "A method that throws an exception changes nothing.", with nothing kept and no digits told. */
    private static void ofANewObject() {
        Nearestclock clock = new Nearestclock();
        Check.refusedBy(clock, "new: rest by 0", ZERO, c -> c.rest(0, 1, 2));
        Check.refusedBy(clock, "new: put of 128", ILLEGAL, c -> c.put(0, 128));
        Check.refusedBy(clock, "new: putBelow into no place", NONE, c -> c.putBelow(12));
        Check.refusedBy(clock, "new: digits by 0", ZERO, c -> c.digits(0, 1));
        Check.refusedBy(clock, "new: digit(0)", NONE, c -> c.digit(0));
        Check.refusedBy(clock, "new: above(1)", NONE, c -> c.above(1));
        Check.refusedBy(clock, "new: below(1)", NONE, c -> c.below(1));
        Check.same("new: above of no digits", clock.above(0), 1);
        Check.same("new: below of no digits", clock.below(0), 0);
    }
}
