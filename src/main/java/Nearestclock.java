/**
 * Numbers that are whole eighths, their rests by one another, Euclid's algorithm on these rests, and the clock of
 * residues. The promises that the comments name are those of the document.
 */
public final class Nearestclock {
    private static final int PLACES = 12;
    private static final int LARGEST = 127;
    private static final int LARGEST_EXPONENT = 1000;

    // A rest is at most half of what it is taken by, so those of 127 are at most 63, 31, 15, 7, 3, 1 and 0.
    private static final int MOST_RESTS = 7;

    // No residue is so large: it stands for an inverse that is not there.
    private static final int NO_RESIDUE = LARGEST + 1;

    // How a double is built: a sign, an exponent (here that of one eighth) and a fraction.
    private static final long SIGN_BIT = 1L << 63;
    private static final int FRACTION_BITS = 52;
    private static final long FRACTION_MASK = (1L << FRACTION_BITS) - 1;
    private static final int EXPONENT_OF_AN_EIGHTH = 1020;

    private final int[] held;
    // True only where a 0 is held: an int has no 0 below.
    private final boolean[] isBelow;
    private final Euclid told;
    // What steps, measure and their like find must not touch the row of digits.
    private final Euclid spare;

    public Nearestclock() {
        held = new int[PLACES];
        isBelow = new boolean[PLACES];
        told = new Euclid();
        spare = new Euclid();
    }

    // Numbers: promises 2 to 7.

    public long put(int place, int eighths) throws IndexOutOfBoundsException, IllegalArgumentException {
        needPlace(place);
        if (eighths < -LARGEST || eighths > LARGEST) {
            throw new IllegalArgumentException("so many eighths are not of the set");
        }
        long before = bitsAt(place);
        keep(place, eighths, false);
        return before;
    }

    public long putBelow(int place) throws IndexOutOfBoundsException {
        needPlace(place);
        long before = bitsAt(place);
        keep(place, 0, true);
        return before;
    }

    public long turn(int place) throws IndexOutOfBoundsException {
        needPlace(place);
        return keep(place, -held[place], held[place] == 0 && !isBelow[place]);
    }

    public int eighths(int place) throws IndexOutOfBoundsException {
        needPlace(place);
        return held[place];
    }

    public long bits(int place) throws IndexOutOfBoundsException {
        needPlace(place);
        return bitsAt(place);
    }

    public double number(int place) throws IndexOutOfBoundsException {
        needPlace(place);
        return isBelow[place] ? -0.0 : (double) held[place] / 8.0;
    }

    // Rests: promises 8 to 13. StrictMath and Math answer alike to the bit, and LANGUAGE.md admits neither on
    // doubles: both rests are reckoned in whole eighths.

    public long rest(int to, int x, int y) throws IndexOutOfBoundsException, ArithmeticException {
        return keepRest(to, x, y);
    }

    public long restToo(int to, int x, int y) throws IndexOutOfBoundsException, ArithmeticException {
        return keepRest(to, x, y);
    }

    public int times(int x, int y) throws IndexOutOfBoundsException, ArithmeticException {
        needDivision(x, y);
        return nearest(held[x], held[y]);
    }

    public boolean isHalf(int x, int y) throws IndexOutOfBoundsException, ArithmeticException {
        needDivision(x, y);
        return 2 * Math.abs(restOf(held[x], held[y])) == Math.abs(held[y]);
    }

    public long cut(int to, int x, int y) throws IndexOutOfBoundsException, ArithmeticException {
        needPlace(to);
        needDivision(x, y);
        return keepSigned(to, cutOf(held[x], held[y]), x);
    }

    public int apart(int x, int y) throws IndexOutOfBoundsException, ArithmeticException {
        needDivision(x, y);
        int added = restOf(held[x], held[y]) - cutOf(held[x], held[y]);
        return Integer.compare(added, 0);
    }

    // Residues: promises 14 to 21.

    public long residue(int to, int x, int y) throws IndexOutOfBoundsException, ArithmeticException {
        needPlace(to);
        needDivision(x, y);
        return keepResidue(to, held[x], y);
    }

    public long plus(int to, int x, int z, int y) throws IndexOutOfBoundsException, ArithmeticException {
        needPlace(to);
        needPlace(z);
        needDivision(x, y);
        return keepResidue(to, held[x] + held[z], y);
    }

    public long minus(int to, int x, int z, int y) throws IndexOutOfBoundsException, ArithmeticException {
        needPlace(to);
        needPlace(z);
        needDivision(x, y);
        return keepResidue(to, held[x] - held[z], y);
    }

    public long many(int to, int times, int x, int y) throws IndexOutOfBoundsException, ArithmeticException {
        needPlace(to);
        needDivision(x, y);
        return keepResidue(to, (long) times * held[x], y);
    }

    public long product(int to, int x, int z, int y) throws IndexOutOfBoundsException, ArithmeticException {
        needPlace(to);
        needPlace(z);
        needDivision(x, y);
        return keepResidue(to, held[x] * held[z], y);
    }

    public long power(int to, int x, int exponent, int y)
            throws IndexOutOfBoundsException, IllegalArgumentException, ArithmeticException {
        needPlace(to);
        needPlace(x);
        needPlace(y);
        if (exponent < 0 || exponent > LARGEST_EXPONENT) {
            throw new IllegalArgumentException("the exponent is out of range");
        }
        needDivision(x, y);
        return keepResidue(to, powerOf(held[x], exponent, held[y]), y);
    }

    public long inverse(int to, int x, int y) throws IndexOutOfBoundsException, ArithmeticException {
        needPlace(to);
        needDivision(x, y);
        int found = inverseOf(held[x], held[y]);
        if (found == NO_RESIDUE) {
            throw new ArithmeticException("no residue is the inverse");
        }
        return keep(to, found, false);
    }

    public int order(int x, int y) throws IndexOutOfBoundsException, ArithmeticException {
        needDivision(x, y);
        return Math.abs(quotient(held[y], measureOf(held[x], held[y])));
    }

    // Measures: promises 22 to 27.

    public long measure(int to, int x, int z) throws IndexOutOfBoundsException {
        needPlace(to);
        needPlace(x);
        needPlace(z);
        return keep(to, measureOf(held[x], held[z]), false);
    }

    public int steps(int x, int z) throws IndexOutOfBoundsException {
        needPlace(x);
        needPlace(z);
        spare.takeRests(held[x], held[z]);
        return spare.count;
    }

    public int digits(int x, int z) throws IndexOutOfBoundsException, ArithmeticException {
        needDivision(x, z);
        told.takeRests(held[x], held[z]);
        return told.count;
    }

    public int digit(int index) throws IndexOutOfBoundsException {
        if (index < 0 || index >= told.count) {
            throw new IndexOutOfBoundsException("no such digit");
        }
        return told.row[index];
    }

    public int above(int many) throws IndexOutOfBoundsException {
        needDigits(many);
        return told.aboveLine(many);
    }

    public int below(int many) throws IndexOutOfBoundsException {
        needDigits(many);
        return told.belowLine(many);
    }

    // All of them: promises 28 to 30.

    public int sum() {
        int together = 0;
        for (int place = 0; place < PLACES; place++) {
            together += held[place];
        }
        return together;
    }

    public long checksum() {
        long all = 17;
        for (int place = 0; place < PLACES; place++) {
            all = 31 * all + bitsAt(place);
        }
        all = 31 * all + told.count;
        for (int index = 0; index < told.count; index++) {
            all = 31 * all + told.row[index];
        }
        return all;
    }

    public boolean isTrue() {
        for (int place = 0; place < PLACES; place++) {
            if (held[place] != 0 && !isTrueBy(held[place])) {
                return false;
            }
        }
        return true;
    }

    // What the calls need before they look at anything.

    private static void needPlace(int place) {
        if (place < 0 || place >= PLACES) {
            throw new IndexOutOfBoundsException("no such place");
        }
    }

    /** Other places that a call names must be looked at before: a divisor of 0 is refused after them. */
    private void needDivision(int x, int y) {
        needPlace(x);
        needPlace(y);
        if (held[y] == 0) {
            throw new ArithmeticException("no number is divided by 0");
        }
    }

    private void needDigits(int many) {
        if (many < 0 || many > told.count) {
            throw new IndexOutOfBoundsException("not so many digits");
        }
    }

    // Places that were looked at before, and what they hold.

    private long keep(int place, int eighths, boolean isZeroBelow) {
        held[place] = eighths;
        isBelow[place] = isZeroBelow;
        return bitsAt(place);
    }

    /** Keeps what is left of x: a 0 has the sign of x. */
    private long keepSigned(int to, int left, int x) {
        return keep(to, left, left == 0 && isUnder(x));
    }

    private boolean isUnder(int place) {
        return held[place] < 0 || isBelow[place];
    }

    private long keepRest(int to, int x, int y) {
        needPlace(to);
        needDivision(x, y);
        return keepSigned(to, restOf(held[x], held[y]), x);
    }

    private long keepResidue(int to, long eighths, int y) {
        return keep(to, residueOf(eighths, held[y]), false);
    }

    private long bitsAt(int place) {
        return bitsOf(held[place], isBelow[place]);
    }

    private static long bitsOf(int eighths, boolean isZeroBelow) {
        if (eighths == 0) {
            return isZeroBelow ? SIGN_BIT : 0;
        }
        int size = Math.abs(eighths);
        int highest = 31 - Integer.numberOfLeadingZeros(size);
        long exponent = (long) (EXPONENT_OF_AN_EIGHTH + highest) << FRACTION_BITS;
        long fraction = ((long) size << (FRACTION_BITS - highest)) & FRACTION_MASK;
        return (eighths < 0 ? SIGN_BIT : 0) | exponent | fraction;
    }

    // Reckoning with whole numbers of eighths. The calls refuse a divisor of 0 themselves; where one is looked for
    // here, it is only kept from the machine.

    private static int quotient(int x, int y) {
        return y == 0 ? 0 : x / y;
    }

    private static int cutOf(int x, int y) {
        return y == 0 ? 0 : x % y;
    }

    /** The whole number nearest to x / y, the even one of two that are as near. */
    private static int nearest(int x, int y) {
        int towardZero = quotient(x, y);
        int overHalf = 2 * Math.abs(cutOf(x, y)) - Math.abs(y);
        boolean isOdd = (towardZero & 1) != 0;
        if (overHalf < 0 || overHalf == 0 && !isOdd) {
            return towardZero;
        }
        return (x < 0) == (y < 0) ? towardZero + 1 : towardZero - 1;
    }

    private static int restOf(int x, int y) {
        return x - nearest(x, y) * y;
    }

    private static int residueOf(long eighths, int y) {
        int size = Math.abs(y);
        if (size == 0) {
            return 0;
        }
        int left = (int) (eighths % size);
        if (2 * left > size) {
            return left - size;
        }
        return 2 * left <= -size ? left + size : left;
    }

    private static int powerOf(int x, int exponent, int y) {
        int product = residueOf(1, y);
        for (int factors = 0; factors < exponent; factors++) {
            product = residueOf(product * x, y);
        }
        return product;
    }

    private int measureOf(int x, int z) {
        spare.takeRests(x, z);
        return Math.abs(spare.last);
    }

    /**
     * The inverse of x by y, or NO_RESIDUE. If the share of x and y is p / q and the share of all digits but the last
     * is u / v, then p v - u q is 1 or -1: so where the measure is one eighth, v or -v is what is looked for.
     */
    private int inverseOf(int x, int y) {
        spare.takeRests(x, y);
        int found = residueOf(spare.belowLine(spare.count - 1), y);
        if (isInverse(found, x, y)) {
            return found;
        }
        int turned = residueOf(-found, y);
        return isInverse(turned, x, y) ? turned : NO_RESIDUE;
    }

    private static boolean isInverse(int residue, int x, int y) {
        return residueOf(residue * x, y) == residueOf(1, y);
    }

    // What isTrue looks at.

    private boolean isTrueBy(int y) {
        if (!isClockTrue(y)) {
            return false;
        }
        for (int place = 0; place < PLACES; place++) {
            int x = held[place];
            boolean isTrueOfRest = isRestTrue(x, y) && isSignTrue(x, isUnder(place), y);
            if (!isTrueOfRest || !isResidueTrue(x, y) || !isRingTrue(place, y) || !isMeasureTrue(x, y)) {
                return false;
            }
        }
        return true;
    }

    private static boolean isRestTrue(int x, int y) {
        int left = restOf(x, y);
        int twice = 2 * Math.abs(left);
        int size = Math.abs(y);
        boolean isNearest = twice < size || twice == size && (nearest(x, y) & 1) == 0;
        boolean isSame = restOf(x, -y) == left && restOf(-x, y) == -left && restOf(left, y) == left;
        int added = Math.abs(left - cutOf(x, y));
        return isNearest && isSame && (added == 0 || added == size);
    }

    /** A rest of 0 has the sign of x, so that the rest of x turned is that rest turned, by its bits as well. */
    private static boolean isSignTrue(int x, boolean isUnder, int y) {
        long rest = bitsOf(restOf(x, y), isUnder);
        long ofTurned = bitsOf(restOf(-x, y), !isUnder);
        return ofTurned == (rest ^ SIGN_BIT) && (restOf(x, y) != 0 || rest < 0 == isUnder);
    }

    /** The residues, which alone are their own residue, are as many as y has eighths. */
    private static boolean isClockTrue(int y) {
        int size = Math.abs(y);
        int residues = 0;
        for (int each = -size; each <= size; each++) {
            if (residueOf(each, y) == each) {
                residues++;
            }
        }
        return residues == size;
    }

    private boolean isResidueTrue(int x, int y) {
        int residue = residueOf(x, y);
        int size = Math.abs(y);
        boolean isOnClock = 2 * residue > -size && 2 * residue <= size && cutOf(x - residue, y) == 0;
        boolean hasInverse = inverseOf(x, y) != NO_RESIDUE;
        return isOnClock && hasInverse == (measureOf(x, y) == 1);
    }

    /** Sums and products of residues are those of the numbers: of two places once, in one order. */
    private boolean isRingTrue(int first, int y) {
        int x = held[first];
        int ofX = residueOf(x, y);
        for (int place = first; place < PLACES; place++) {
            int z = held[place];
            int ofZ = residueOf(z, y);
            boolean isSum = residueOf(ofX + ofZ, y) == residueOf(x + z, y);
            boolean isProduct = residueOf(ofX * ofZ, y) == residueOf(x * z, y);
            if (!isSum || !isProduct) {
                return false;
            }
        }
        return true;
    }

    private boolean isMeasureTrue(int x, int y) {
        int measure = measureOf(x, y);
        int count = spare.count;
        int above = spare.aboveLine(count);
        int below = spare.belowLine(count);
        boolean isOfBoth = measure > 0 && cutOf(x, measure) == 0 && cutOf(y, measure) == 0;
        boolean isShare = Math.abs(above) * measure == Math.abs(x) && Math.abs(below) * measure == Math.abs(y)
                && above * y == below * x;
        // Whatever divides both numbers of the share divides this: where it is 1 or -1 the share is in lowest terms,
        // and no measure of x and y is greater.
        int crossed = above * spare.belowLine(count - 1) - below * spare.aboveLine(count - 1);
        return isOfBoth && isShare && Math.abs(crossed) == 1 && spare.isAtEnd;
    }

    /** The rests that Euclid's algorithm takes, and the whole numbers of them as a continued fraction. */
    private static final class Euclid {
        private final int[] row = new int[MOST_RESTS];
        private int count;
        // The last number that was not 0: but for its sign the greatest common measure.
        private int last;
        private boolean isAtEnd;

        private void takeRests(int x, int z) {
            int next = z;
            last = x;
            count = 0;
            while (next != 0 && count < row.length) {
                int often = nearest(last, next);
                int left = last - often * next;
                row[count] = often;
                count++;
                last = next;
                next = left;
            }
            isAtEnd = next == 0;
        }

        private int aboveLine(int many) {
            return shareOf(many, 0, 1);
        }

        private int belowLine(int many) {
            return shareOf(many, 1, 0);
        }

        /** As if two numbers stood before the first digit, so that the rule for more digits serves for all. */
        private int shareOf(int many, int first, int second) {
            int before = first;
            int newest = second;
            for (int index = 0; index < many && index < count; index++) {
                int next = row[index] * newest + before;
                before = newest;
                newest = next;
            }
            return newest;
        }
    }
}
