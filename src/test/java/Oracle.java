import java.math.BigInteger;
import java.util.ArrayList;
import java.util.List;

/** What the document asks, by the Java library's own remainders and whole numbers of any size. */
final class Oracle {
    private Oracle() {
    }

    static long bits(double number) {
        return Double.doubleToLongBits(number);
    }

    static int eighths(double number) {
        return (int) (number * 8);
    }

    static double rest(double x, double y) {
        return StrictMath.IEEEremainder(x, y);
    }

    // Two numbers of the set are too small for x / y to be rounded to a half or over one that it is not.
    static int times(double x, double y) {
        return (int) Math.rint(x / y);
    }

    static boolean isHalf(double x, double y) {
        return Math.abs(x / y - Math.floor(x / y)) == 0.5;
    }

    static int apart(double x, double y) {
        return (int) ((rest(x, y) - x % y) / Math.abs(y));
    }

    static double residue(BigInteger eighths, double y) {
        BigInteger size = BigInteger.valueOf(Math.abs(eighths(y)));
        BigInteger left = eighths.mod(size);
        boolean isOverHalf = left.add(left).compareTo(size) > 0;
        return (isOverHalf ? left.subtract(size) : left).intValueExact() / 8.0;
    }

    static double residue(long eighths, double y) {
        return residue(BigInteger.valueOf(eighths), y);
    }

    static double power(double x, int exponent, double y) {
        return residue(BigInteger.valueOf(eighths(x)).pow(exponent), y);
    }

    /** The inverse by going through all residues; null if there is none. */
    static Double inverse(double x, double y) {
        for (int r = 0; r < Math.abs(eighths(y)); r++) {
            if (residue((long) eighths(x) * r, y) == residue(1, y)) {
                return residue(r, y);
            }
        }
        return null;
    }

    static int order(double x, double y) {
        int often = 1;
        while (residue((long) often * eighths(x), y) != 0) {
            often++;
        }
        return often;
    }

    static double measure(double x, double z) {
        return BigInteger.valueOf(eighths(x)).gcd(BigInteger.valueOf(eighths(z))).intValueExact() / 8.0;
    }

    static List<Integer> digits(double x, double z) {
        List<Integer> all = new ArrayList<>();
        double one = x;
        double next = z;
        while (next != 0) {
            all.add(times(one, next));
            double left = rest(one, next);
            one = next;
            next = left;
        }
        return all;
    }

    static int above(List<Integer> digits, int many) {
        if (many == 0) {
            return 1;
        }
        int last = digits.get(many - 1);
        return many == 1 ? last : last * above(digits, many - 1) + above(digits, many - 2);
    }

    static int below(List<Integer> digits, int many) {
        if (many < 2) {
            return many;
        }
        return digits.get(many - 1) * below(digits, many - 1) + below(digits, many - 2);
    }

    static long checksum(double[] numbers, List<Integer> digits) {
        BigInteger all = BigInteger.valueOf(17);
        for (double number : numbers) {
            all = next(all, bits(number));
        }
        all = next(all, digits.size());
        for (int digit : digits) {
            all = next(all, digit);
        }
        return all.longValue();
    }

    private static BigInteger next(BigInteger all, long added) {
        return all.multiply(BigInteger.valueOf(31)).add(BigInteger.valueOf(added));
    }
}
