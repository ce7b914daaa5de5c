import java.math.BigInteger;

/** The numbers by which the document draws a side. */
final class Draws {
    static final long MODULUS = 2147483648L;

    private Draws() {
    }

    static int behind(int seed) {
        return (int) ((seed * 1103515245L + 12345L) % MODULUS);
    }

    /** The seed from which the next number is this one. */
    static int seedBefore(long number) {
        BigInteger modulus = BigInteger.valueOf(MODULUS);
        BigInteger inverse = BigInteger.valueOf(1103515245L).modInverse(modulus);
        return BigInteger.valueOf(number - 12345L).multiply(inverse).mod(modulus).intValueExact();
    }
}
