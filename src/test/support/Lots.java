import java.math.BigInteger;

/** The LOTS backwards, so that a test can choose what comes. */
final class Lots {
    static final long MODULUS = 2147483647L;
    private static final long FACTOR = 48271;

    private Lots() {
    }

    /** The seed by which the first number is this one. */
    static int seedFor(long first) {
        BigInteger modulus = BigInteger.valueOf(MODULUS);
        BigInteger back = BigInteger.valueOf(FACTOR).modInverse(modulus);
        return BigInteger.valueOf(first).multiply(back).mod(modulus).intValueExact();
    }
}
