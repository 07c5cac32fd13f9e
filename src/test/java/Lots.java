import java.math.BigInteger;

/** The document's LOT, once more, in numbers without bounds that are cut down to 32 bits. */
final class Lots {
    private static final BigInteger BITS = BigInteger.ONE.shiftLeft(32);

    private Lots() {
    }

    static int lot(int n, int seed, int which) {
        BigInteger h = BigInteger.valueOf(seed);
        for (int each : new int[] {215, which}) {
            h = h.xor(BigInteger.valueOf(each)).multiply(BigInteger.valueOf(1103515245)).add(BigInteger.valueOf(12345))
                    .mod(BITS);
            h = h.xor(h.shiftRight(15));
        }
        return h.shiftRight(1).mod(BigInteger.valueOf(n)).intValue();
    }

    /** Which way a crate is to go in a minute. */
    static int way(int seed, int minute, int crate) {
        return lot(4, seed, 8 * minute + crate);
    }

    /** What SLIPS must be above for it to slip in a minute. */
    static int slip(int seed, int minute, int crate) {
        return lot(100, seed, 100000 + 8 * minute + crate);
    }
}
