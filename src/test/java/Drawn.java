import java.math.BigInteger;

/** The numbers drawn, worked out on whole numbers without an end, not by Java's wrap-around. */
final class Drawn {
    private static final BigInteger BITS_64 = BigInteger.ONE.shiftLeft(64);
    private static final BigInteger FACTOR = new BigInteger("6364136223846793005");
    private static final BigInteger SUMMAND = new BigInteger("1442695040888963407");

    private Drawn() { }

    /** The number that is drawn as the nth one (from 1) behind a seed, 0 .. below - 1. */
    static long number(long seed, int nth, long below) {
        BigInteger x = BigInteger.valueOf(seed).mod(BITS_64);
        for (int i = 0; i < nth; i++) {
            x = x.multiply(FACTOR).add(SUMMAND).mod(BITS_64);
        }
        return x.shiftRight(33).mod(BigInteger.valueOf(below)).longValueExact();
    }
}
