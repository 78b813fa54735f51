import java.math.BigInteger;

/** The number of a tick by the document's words, whole, and cut to an int only at the end. */
final class TickNumber {
    private static final BigInteger TIMES = BigInteger.valueOf(31);

    private TickNumber() {
    }

    static int[] unit(int points, int tile, int patience, int order) {
        return new int[] {points, tile, patience, order};
    }

    static int[] dead() {
        return unit(0, 0, 0, 0);
    }

    static BigInteger whole(int[]... units) {
        BigInteger sum = BigInteger.valueOf(17);
        for (int[] unit : units) {
            sum = sum.multiply(TIMES).add(BigInteger.valueOf(64 * unit[0] + unit[1]));
            sum = sum.multiply(TIMES).add(BigInteger.valueOf(8 * unit[2] + unit[3]));
        }
        return sum;
    }

    static int of(int[]... units) {
        return whole(units).intValue();
    }
}
