import java.math.BigInteger;

/** The draws that the document tells, worked out in numbers without an end that are cut to 64 bits. */
final class Draws {
    private static final BigInteger ROUND = BigInteger.ONE.shiftLeft(64);
    private static final BigInteger TIMES = new BigInteger("6364136223846793005");
    private static final BigInteger AND = new BigInteger("1442695040888963407");
    /** Seeds at which a number goes round, or seems to be below 0. */
    static final long[] SEEDS = {0, 1, -1, 2, -2, 5, Long.MAX_VALUE, Long.MIN_VALUE, Long.MAX_VALUE - 1,
        Long.MIN_VALUE + 1, 1L << 32, 1L << 33, 1L << 62, 0xffffffffL, -0x100000000L, 123456789012345L};

    private BigInteger x;

    Draws(long seed) {
        x = BigInteger.valueOf(seed).mod(ROUND);
    }

    int below(int m) {
        x = x.multiply(TIMES).add(AND).mod(ROUND);
        return x.shiftRight(33).mod(BigInteger.valueOf(m)).intValue();
    }
}
