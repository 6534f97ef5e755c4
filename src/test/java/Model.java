import java.util.ArrayList;
import java.util.List;

/** The document's clock on the Java library: doubles, the library's own remainders, and lists. */
final class Model {
    private final double[] kept = new double[Clocks.PLACES];
    private List<Integer> row = new ArrayList<>();

    long put(int place, int eighths) {
        long before = bits(place);
        if (Math.abs((long) eighths) > Clocks.LARGEST) {
            throw new IllegalArgumentException();
        }
        keep(place, eighths / 8.0);
        return before;
    }

    long putBelow(int place) {
        long before = bits(place);
        keep(place, -0.0);
        return before;
    }

    long turn(int place) {
        need(place);
        return keep(place, -kept[place]);
    }

    int eighths(int place) {
        need(place);
        return Oracle.eighths(kept[place]);
    }

    long bits(int place) {
        need(place);
        return Oracle.bits(kept[place]);
    }

    double number(int place) {
        need(place);
        return kept[place];
    }

    long rest(int to, int x, int y) {
        need(to, x, y);
        return keep(to, StrictMath.IEEEremainder(kept[x], divisor(y)));
    }

    long restToo(int to, int x, int y) {
        need(to, x, y);
        return keep(to, Math.IEEEremainder(kept[x], divisor(y)));
    }

    int times(int x, int y) {
        need(x, y);
        return Oracle.times(kept[x], divisor(y));
    }

    boolean isHalf(int x, int y) {
        need(x, y);
        return Oracle.isHalf(kept[x], divisor(y));
    }

    long cut(int to, int x, int y) {
        need(to, x, y);
        return keep(to, kept[x] % divisor(y));
    }

    int apart(int x, int y) {
        need(x, y);
        return Oracle.apart(kept[x], divisor(y));
    }

    long residue(int to, int x, int y) {
        need(to, x, y);
        return keep(to, Oracle.residue(eighths(x), divisor(y)));
    }

    long plus(int to, int x, int z, int y) {
        need(to, x, z, y);
        return keep(to, Oracle.residue(eighths(x) + eighths(z), divisor(y)));
    }

    long minus(int to, int x, int z, int y) {
        need(to, x, z, y);
        return keep(to, Oracle.residue(eighths(x) - eighths(z), divisor(y)));
    }

    long many(int to, int times, int x, int y) {
        need(to, x, y);
        return keep(to, Oracle.residue((long) times * eighths(x), divisor(y)));
    }

    long product(int to, int x, int z, int y) {
        need(to, x, z, y);
        return keep(to, Oracle.residue(eighths(x) * eighths(z), divisor(y)));
    }

    long power(int to, int x, int exponent, int y) {
        need(to, x, y);
        if (exponent < 0 || exponent > 1000) {
            throw new IllegalArgumentException();
        }
        return keep(to, Oracle.power(kept[x], exponent, divisor(y)));
    }

    long inverse(int to, int x, int y) {
        need(to, x, y);
        Double found = Oracle.inverse(kept[x], divisor(y));
        if (found == null) {
            throw new ArithmeticException();
        }
        return keep(to, found);
    }

    int order(int x, int y) {
        need(x, y);
        return Oracle.order(kept[x], divisor(y));
    }

    long measure(int to, int x, int z) {
        need(to, x, z);
        return keep(to, Oracle.measure(kept[x], kept[z]));
    }

    int steps(int x, int z) {
        need(x, z);
        return Oracle.digits(kept[x], kept[z]).size();
    }

    int digits(int x, int z) {
        need(x, z);
        row = Oracle.digits(kept[x], divisor(z));
        return row.size();
    }

    int digit(int index) {
        if (index < 0 || index >= row.size()) {
            throw new IndexOutOfBoundsException();
        }
        return row.get(index);
    }

    int above(int many) {
        needDigits(many);
        return Oracle.above(row, many);
    }

    int below(int many) {
        needDigits(many);
        return Oracle.below(row, many);
    }

    int sum() {
        int together = 0;
        for (double number : kept) {
            together += Oracle.eighths(number);
        }
        return together;
    }

    long checksum() {
        return Oracle.checksum(kept, row);
    }

    boolean isTrue() {
        return true;
    }

    private static void need(int... places) {
        for (int place : places) {
            if (place < 0 || place >= Clocks.PLACES) {
                throw new IndexOutOfBoundsException();
            }
        }
    }

    private void needDigits(int many) {
        if (many < 0 || many > row.size()) {
            throw new IndexOutOfBoundsException();
        }
    }

    private double divisor(int y) {
        if (kept[y] == 0) {
            throw new ArithmeticException();
        }
        return kept[y];
    }

    private long keep(int place, double number) {
        kept[place] = number;
        return Oracle.bits(number);
    }
}
