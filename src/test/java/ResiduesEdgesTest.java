/**
 * Promises 14 to 21 and "Residues.", each sentence that names a boundary in a test of its own. The figures are
 * eighths; a residue is never the 0 below.
 */
public final class ResiduesEdgesTest {
    private static final int BELOW = Clocks.BELOW;
    private static final int MOST = Integer.MAX_VALUE;
    private static final int LEAST = Integer.MIN_VALUE;

    private ResiduesEdgesTest() {
    }

    public static void main(String[] args) {
        promise14AboveMinusHalfAtMostHalf();
        promise14ZeroIsThePlainOne();
        promise14EndsOfTheSet();
        termsAsManyAsYHasEighths();
        termsOnePlaceOnTheClock();
        promise15SumsOutsideTheSet();
        promise15JustHalf();
        promise15ZeroIsThePlainOne();
        promise16DifferencesOutsideTheSet();
        promise16JustHalf();
        promise16ZeroIsThePlainOne();
        promise17AnyNumber();
        promise17NotRoundAnInt();
        promise17JustHalf();
        promise17ZeroIsThePlainOne();
        promise18ProductsOutsideTheSet();
        promise18JustHalf();
        promise18ZeroIsThePlainOne();
        promise18OneEighthIsTheOne();
        promise19OfNoFactors();
        promise19FirstAndLastExponent();
        promise19JustHalf();
        promise19ZeroIsThePlainOne();
        promise20ByOneEighth();
        promise20OfEitherSign();
        promise20JustHalf();
        termsInverseJustIfMeasureIsOneEighth();
        promise21OnceAtLeast();
        promise21OneTo127();
        promises14To20IntoAnyPlace();
        termsSumsAndProductsOfResidues();
        termsEveryNumberIsOfTheSet();
        Check.end(ResiduesEdgesTest.class);
    }

    /** The same by y and by -y: what a residue is asks for |y| alone. */
    private interface Answer {
        long by(Nearestclock clock, int y);
    }

    /** Looks at the answer and what is kept over a 0 below, by the divisor in place 2 and by that turned. */
    private static void leaves(String what, Nearestclock clock, Answer call, int due) {
        int y = clock.eighths(2);
        for (int turns = 0; turns < 2; turns++) {
            clock.putBelow(11);
            Check.same(what + " by " + clock.eighths(2), call.by(clock, 2), Clocks.bitsOf(due));
            Check.same(what + " by " + clock.eighths(2) + ": kept", clock.bits(11), Clocks.bitsOf(due));
            Check.same(what + " by " + clock.eighths(2) + ": itself", Clocks.rawOf(clock, 11), Clocks.bitsOf(due));
            clock.turn(2);
        }
        Check.same(what + ": y", clock.eighths(2), y);
    }

    private static void residue(int x, int y, int due) {
        String what = "promise 14: residue of " + Clocks.nameOf(x);
        leaves(what, Clocks.ofEighths(x, 0, y), (c, of) -> c.residue(11, 0, of), due);
    }

    private static void plus(int x, int z, int y, int due) {
        String what = "promise 15: " + Clocks.nameOf(x) + " plus " + Clocks.nameOf(z);
        leaves(what, Clocks.ofEighths(x, z, y), (c, of) -> c.plus(11, 0, 1, of), due);
    }

    private static void minus(int x, int z, int y, int due) {
        String what = "promise 16: " + Clocks.nameOf(x) + " minus " + Clocks.nameOf(z);
        leaves(what, Clocks.ofEighths(x, z, y), (c, of) -> c.minus(11, 0, 1, of), due);
    }

    private static void many(int times, int x, int y, int due) {
        String what = "promise 17: " + times + " times " + Clocks.nameOf(x);
        leaves(what, Clocks.ofEighths(x, 0, y), (c, of) -> c.many(11, times, 0, of), due);
    }

    private static void product(int x, int z, int y, int due) {
        String what = "promise 18: product of " + Clocks.nameOf(x) + " and " + Clocks.nameOf(z);
        leaves(what, Clocks.ofEighths(x, z, y), (c, of) -> c.product(11, 0, 1, of), due);
    }

    private static void power(int x, int exponent, int y, int due) {
        String what = "promise 19: " + Clocks.nameOf(x) + " to the " + exponent;
        leaves(what, Clocks.ofEighths(x, 0, y), (c, of) -> c.power(11, 0, exponent, of), due);
    }

    private static void inverse(int x, int y, int due) {
        String what = "promise 20: inverse of " + Clocks.nameOf(x);
        leaves(what, Clocks.ofEighths(x, 0, y), (c, of) -> c.inverse(11, 0, of), due);
    }

    private static void order(int x, int y, int due) {
        String what = "promise 21: order of " + Clocks.nameOf(x) + " by " + y;
        Check.same(what, Clocks.ofEighths(x, y).order(0, 1), due);
        Check.same(what + " turned", Clocks.ofEighths(x, -y).order(0, 1), due);
    }

    /** "Residues.": "the one number r above minus half of |y| and at most half of |y|". */
    private static void promise14AboveMinusHalfAtMostHalf() {
        int[][] xYDue = {{4, 8, 4}, {-4, 8, 4}, {12, 8, 4}, {-12, 8, 4}, {3, 8, 3}, {-3, 8, -3}, {5, 8, -3}, {-5, 8, 3},
                {1, 2, 1}, {-1, 2, 1}, {127, 2, 1}, {-127, 2, 1}, {63, 126, 63}, {-63, 126, 63}, {64, 126, -62},
                {3, 7, 3}, {-3, 7, -3}, {4, 7, -3}, {-4, 7, 3}, {63, 127, 63}, {-63, 127, -63}, {64, 127, -63}};
        for (int[] each : xYDue) {
            residue(each[0], each[1], each[2]);
        }
    }

    /** "Residues.": "if that is 0 it is the plain one". */
    private static void promise14ZeroIsThePlainOne() {
        int[][] xY = {{8, 8}, {-8, 8}, {16, 8}, {-16, 8}, {0, 8}, {BELOW, 8}, {0, 1}, {BELOW, 1}, {127, 1}, {-127, 1},
                {127, 127}, {-127, 127}};
        for (int[] each : xY) {
            residue(each[0], each[1], 0);
        }
    }

    /** "The set.": "from -127 to 127": both ends as x and as y. */
    private static void promise14EndsOfTheSet() {
        residue(127, 126, 1);
        residue(-127, 126, -1);
        residue(126, 127, -1);
        residue(-126, 127, 1);
        residue(1, 127, 1);
        residue(-1, 127, -1);
    }

    /** Terms: "The residues by y are as many as y has eighths". */
    private static void termsAsManyAsYHasEighths() {
        for (int y = 1; y <= 127; y++) {
            boolean[] isResidue = new boolean[256];
            for (int x = -127; x <= 127; x++) {
                Nearestclock clock = Clocks.ofEighths(x, x % 2 == 0 ? y : -y);
                clock.residue(11, 0, 1);
                isResidue[clock.eighths(11) + 127] = true;
            }
            int residues = 0;
            for (boolean each : isResidue) {
                residues += each ? 1 : 0;
            }
            Check.same("the residues by " + y, residues, y);
        }
    }

    /** Terms: "each of them has just one place on the clock": a residue is its own, and the same |y| further. */
    private static void termsOnePlaceOnTheClock() {
        for (int y = 1; y <= 127; y++) {
            for (int x = -63; x <= 63; x++) {
                boolean isOnClock = 2 * x > -y && 2 * x <= y;
                Nearestclock clock = Clocks.ofEighths(x, y);
                long residue = clock.residue(11, 0, 1);
                Check.isTrue(x + " by " + y + " is its own", isOnClock == (residue == Clocks.bitsOf(x)));
                Check.same("and y further", clock.plus(10, 0, 1, 1), residue);
                Check.same("and y before", clock.minus(10, 0, 1, 1), residue);
            }
        }
    }

    /** "Residues.": "a whole number of eighths of any size", promise 15: a sum that is not of the set. */
    private static void promise15SumsOutsideTheSet() {
        plus(127, 127, 126, 2);
        plus(-127, -127, 126, -2);
        plus(127, 127, 125, 4);
        plus(127, 1, 127, 1);
        plus(-127, -1, 127, -1);
        plus(127, 126, 127, -1);
        plus(127, 127, 4, 2);
    }

    /** "Residues.": "at most half of |y|", promise 15. */
    private static void promise15JustHalf() {
        plus(3, 1, 8, 4);
        plus(-3, -1, 8, 4);
        plus(4, 8, 8, 4);
        plus(-4, BELOW, 8, 4);
        plus(62, 1, 126, 63);
        plus(-62, -1, 126, 63);
        plus(-127, -62, 126, 63);
    }

    /** "Residues.": "if that is 0 it is the plain one", promise 15. */
    private static void promise15ZeroIsThePlainOne() {
        plus(BELOW, BELOW, 8, 0);
        plus(BELOW, 0, 8, 0);
        plus(0, BELOW, 8, 0);
        plus(-5, 5, 8, 0);
        plus(-4, -4, 8, 0);
        plus(-127, -127, 127, 0);
        plus(-127, -127, 1, 0);
    }

    /** "Residues.": "a whole number of eighths of any size", promise 16: "x less z" that is not of the set. */
    private static void promise16DifferencesOutsideTheSet() {
        minus(127, -127, 126, 2);
        minus(-127, 127, 126, -2);
        minus(127, -127, 125, 4);
        minus(127, -1, 127, 1);
        minus(-127, 1, 127, -1);
        minus(3, 5, 127, -2);
        minus(5, 3, 127, 2);
        minus(BELOW, 3, 127, -3);
    }

    /** "Residues.": "at most half of |y|", promise 16. */
    private static void promise16JustHalf() {
        minus(5, 1, 8, 4);
        minus(1, 5, 8, 4);
        minus(0, 4, 8, 4);
        minus(BELOW, 4, 8, 4);
        minus(-62, 1, 126, 63);
        minus(-127, 62, 126, 63);
    }

    /** "Residues.": "if that is 0 it is the plain one", promise 16. */
    private static void promise16ZeroIsThePlainOne() {
        minus(BELOW, 0, 8, 0);
        minus(BELOW, BELOW, 8, 0);
        minus(0, 0, 8, 0);
        minus(0, 8, 8, 0);
        minus(-4, 4, 8, 0);
        minus(-127, 127, 127, 0);
        minus(-127, -127, 126, 0);
    }

    /** Promise 17: "times: any number". */
    private static void promise17AnyNumber() {
        many(1, -3, 8, -3);
        many(-1, -3, 8, 3);
        many(2, 127, 126, 2);
        many(MOST, 1, 127, 7);
        many(LEAST, 1, 127, -8);
        many(LEAST, -1, 127, 8);
        many(MOST, 127, 126, 1);
        many(LEAST, 127, 126, -2);
        many(LEAST, -127, 126, 2);
    }

    /** "Residues.": "a whole number of eighths of any size", promise 17: more of them than an int holds. */
    private static void promise17NotRoundAnInt() {
        many(MOST, 127, 125, 44);
        many(LEAST, 127, 125, -46);
        many(16909321, 127, 125, 17);
        many(MOST, -127, 127, 0);
    }

    /** "Residues.": "at most half of |y|", promise 17. */
    private static void promise17JustHalf() {
        many(2, 2, 8, 4);
        many(-2, 2, 8, 4);
        many(MOST, 2, 4, 2);
        many(-MOST, 2, 4, 2);
        many(MOST, 127, 2, 1);
    }

    /** "Residues.": "if that is 0 it is the plain one", promise 17. */
    private static void promise17ZeroIsThePlainOne() {
        many(0, -5, 8, 0);
        many(0, BELOW, 8, 0);
        many(-1, 0, 8, 0);
        many(-1, BELOW, 8, 0);
        many(1, BELOW, 8, 0);
        many(-8, 1, 8, 0);
        many(8, -1, 8, 0);
        many(LEAST, 127, 4, 0);
        many(LEAST, BELOW, 127, 0);
        many(LEAST, 127, 1, 0);
    }

    /** "Residues.": "as many eighths as the product of their numbers of eighths", promise 18: not of the set. */
    private static void promise18ProductsOutsideTheSet() {
        product(127, 127, 126, 1);
        product(-127, 127, 126, -1);
        product(-127, -127, 126, 1);
        product(127, 127, 125, 4);
        product(-127, 127, 125, -4);
        product(3, 5, 127, 15);
        product(3, -5, 8, 1);
    }

    /** "Residues.": "at most half of |y|", promise 18. */
    private static void promise18JustHalf() {
        product(2, 2, 8, 4);
        product(-2, 2, 8, 4);
        product(127, 127, 2, 1);
        product(-127, 127, 2, 1);
        product(-63, 1, 126, 63);
    }

    /** "Residues.": "if that is 0 it is the plain one", promise 18. */
    private static void promise18ZeroIsThePlainOne() {
        product(BELOW, 5, 8, 0);
        product(0, -5, 8, 0);
        product(BELOW, BELOW, 8, 0);
        product(BELOW, 0, 127, 0);
        product(-2, 4, 8, 0);
        product(-127, 127, 127, 0);
        product(-127, 127, 1, 0);
    }

    /** "Residues.": "so one eighth is the one of this ring". */
    private static void promise18OneEighthIsTheOne() {
        for (int x = -127; x <= 127; x++) {
            Nearestclock clock = Clocks.ofEighths(x, 1, 127);
            Check.same("one eighth and " + x, clock.product(11, 1, 0, 2), clock.residue(10, 0, 2));
        }
        product(8, 8, 127, 64 - 127);
    }

    /** Promise 19: "of none the residue of one eighth", of both 0s, too; by one eighth that is 0. */
    private static void promise19OfNoFactors() {
        for (int x : new int[] {0, BELOW, 1, -1, 127, -127, 8}) {
            power(x, 0, 8, 1);
            power(x, 0, 127, 1);
            power(x, 0, 3, 1);
            power(x, 0, 2, 1);
            power(x, 0, 1, 0);
        }
    }

    /** Promise 19: "exponent: 0 to 1000": the first, the last, and those beside them. */
    private static void promise19FirstAndLastExponent() {
        power(-3, 0, 127, 1);
        power(-3, 1, 127, -3);
        power(127, 1, 125, 2);
        power(-3, 2, 127, 9);
        power(2, 999, 127, 32);
        power(2, 1000, 127, -63);
        power(-127, 999, 126, -1);
        power(-127, 1000, 126, 1);
        power(127, 999, 125, -62);
        power(127, 1000, 125, 1);
        power(126, 999, 127, -1);
        power(64, 1000, 127, 2);
        power(3, 1000, 7, -3);
    }

    /** "Residues.": "at most half of |y|", promise 19. */
    private static void promise19JustHalf() {
        power(-4, 1, 8, 4);
        power(2, 2, 8, 4);
        power(-2, 3, 16, 8);
        power(-127, 1000, 2, 1);
        power(-127, 999, 2, 1);
        power(5, 1000, 10, 5);
        power(-5, 999, 10, 5);
    }

    /** "Residues.": "if that is 0 it is the plain one", promise 19. */
    private static void promise19ZeroIsThePlainOne() {
        power(0, 1, 8, 0);
        power(BELOW, 1, 8, 0);
        power(BELOW, 999, 8, 0);
        power(BELOW, 1000, 127, 0);
        power(-2, 3, 8, 0);
        power(-8, 1, 8, 0);
        power(6, 1000, 8, 0);
        power(-127, 999, 127, 0);
        power(-127, 999, 1, 0);
    }

    /** Promise 20: by one eighth there is the residue 0 alone, and it is each number's inverse, and the plain 0. */
    private static void promise20ByOneEighth() {
        for (int x : new int[] {0, BELOW, 1, -1, 8, 127, -127}) {
            inverse(x, 1, 0);
        }
    }

    /** Promise 20: "the residue by y whose product with x by y is the residue of one eighth", of both signs. */
    private static void promise20OfEitherSign() {
        inverse(1, 8, 1);
        inverse(-1, 8, -1);
        inverse(3, 8, 3);
        inverse(-3, 8, -3);
        inverse(127, 126, 1);
        inverse(-127, 126, -1);
        inverse(126, 127, -1);
        inverse(-126, 127, 1);
        inverse(2, 127, -63);
        inverse(-2, 127, 63);
        inverse(64, 127, 2);
        inverse(5, 126, -25);
        inverse(63, 125, 2);
        inverse(2, 7, -3);
    }

    /** "Residues.": "at most half of |y|", promise 20: by two eighths the inverse is just half. */
    private static void promise20JustHalf() {
        inverse(1, 2, 1);
        inverse(-1, 2, 1);
        inverse(127, 2, 1);
        inverse(-127, 2, 1);
    }

    /** Terms: "a number has an inverse there just if its greatest common measure with y is one eighth." */
    private static void termsInverseJustIfMeasureIsOneEighth() {
        for (double x : Clocks.set()) {
            for (double y : Clocks.divisors()) {
                Nearestclock clock = Clocks.of(x, y);
                boolean isOneEighth = clock.measure(11, 0, 1) == Clocks.bitsOf(1);
                Check.isTrue("inverse of " + x + " by " + y, hasInverse(clock) == isOneEighth);
            }
        }
    }

    private static boolean hasInverse(Nearestclock clock) {
        try {
            clock.inverse(10, 0, 1);
            return true;
        } catch (ArithmeticException e) {
            return false;
        }
    }

    /** Promise 21: "how often x must be taken at least, once or more": of what is 0 by y, once. */
    private static void promise21OnceAtLeast() {
        order(0, 8, 1);
        order(BELOW, 8, 1);
        order(BELOW, 127, 1);
        order(8, 8, 1);
        order(-16, 8, 1);
        order(127, 127, 1);
        order(-127, 127, 1);
        order(127, 1, 1);
        order(0, 1, 1);
    }

    /** Promise 21: "Returns how often, 1 to 127." */
    private static void promise21OneTo127() {
        order(1, 127, 127);
        order(-1, 127, 127);
        order(126, 127, 127);
        order(64, 127, 127);
        order(127, 126, 126);
        order(63, 126, 2);
        order(-63, 126, 2);
        order(4, 8, 2);
        order(6, 8, 4);
        order(3, 8, 8);
    }

    /** Promises 14 to 20: "to: 0 to 11": the places of x, z and y are not left out. */
    private static void promises14To20IntoAnyPlace() {
        into("promise 14", 8, (c, to) -> c.residue(to, 0, 2), 3);
        into("promise 15", 8, (c, to) -> c.plus(to, 0, 1, 2), -2);
        into("promise 16", 8, (c, to) -> c.minus(to, 0, 1, 2), 0);
        into("promise 17", 8, (c, to) -> c.many(to, 2, 0, 2), -2);
        into("promise 18", 8, (c, to) -> c.product(to, 0, 1, 2), 1);
        into("promise 19", 8, (c, to) -> c.power(to, 0, 3, 2), 3);
        into("promise 20", 7, (c, to) -> c.inverse(to, 0, 2), -3);
        Check.same("promise 14, all of one place", Clocks.ofEighths(-5).residue(0, 0, 0), 0);
        Check.same("promise 19, all of one place", Clocks.ofEighths(-5).power(0, 0, 0, 0), Clocks.bitsOf(1));
        Check.same("promise 20, all of one place", Clocks.ofEighths(-1).inverse(0, 0, 0), 0);
    }

    private interface Into {
        long of(Nearestclock clock, int to);
    }

    /** Of -5 and 3 by y, into the place of each of them and into one behind them. */
    private static void into(String what, int y, Into call, int due) {
        int[] eighths = {-5, 3, y, 9};
        for (int to = 0; to < eighths.length; to++) {
            Nearestclock clock = Clocks.ofEighths(eighths);
            Check.same(what + " into " + to, call.of(clock, to), Clocks.bitsOf(due));
            for (int place = 0; place < eighths.length; place++) {
                int kept = place == to ? due : eighths[place];
                Check.same(what + " into " + to + ": place " + place, clock.eighths(place), kept);
            }
        }
    }

    /** Terms: "sums and products of residues are those of the numbers". */
    private static void termsSumsAndProductsOfResidues() {
        for (double x : Clocks.some()) {
            for (double z : Clocks.some()) {
                for (double y : Clocks.divisors()) {
                    Nearestclock clock = Clocks.of(x, z, y);
                    clock.residue(3, 0, 2);
                    clock.residue(4, 1, 2);
                    String what = " of the residues of " + x + " and " + z + " by " + y;
                    Check.same("sum" + what, clock.plus(11, 3, 4, 2), clock.plus(10, 0, 1, 2));
                    Check.same("product" + what, clock.product(11, 3, 4, 2), clock.product(10, 0, 1, 2));
                }
            }
        }
    }

    /** "The set.": "Every number that is told or kept is of the set.", where what is reckoned with is far outside. */
    private static void termsEveryNumberIsOfTheSet() {
        int[] ends = {127, -127, 126, -126, 125, -64, 63, 2, 1, -1};
        for (int x : ends) {
            for (int z : ends) {
                for (int y : ends) {
                    Nearestclock clock = Clocks.ofEighths(x, z, y);
                    isOfTheSet("sum", clock, clock.plus(11, 0, 1, 2));
                    isOfTheSet("difference", clock, clock.minus(11, 0, 1, 2));
                    isOfTheSet("many", clock, clock.many(11, MOST, 0, 2));
                    isOfTheSet("many below 0", clock, clock.many(11, LEAST, 0, 2));
                    isOfTheSet("product", clock, clock.product(11, 0, 1, 2));
                    isOfTheSet("power", clock, clock.power(11, 0, 1000, 2));
                }
            }
        }
    }

    private static void isOfTheSet(String what, Nearestclock clock, long told) {
        int eighths = clock.eighths(11);
        Check.isTrue(what + " from -127 to 127", eighths >= -127 && eighths <= 127);
        Check.same(what + " told", told, Clocks.bitsOf(eighths));
        Check.same(what + " kept", Clocks.rawOf(clock, 11), Clocks.bitsOf(eighths));
    }
}
