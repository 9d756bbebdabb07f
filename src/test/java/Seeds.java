import java.math.BigInteger;

/** Seeds that lead to a wanted DRAW: what makes a DRAW of STATE is gone back step by step. */
final class Seeds {
    static final long STEP = 0x9E3779B97F4A7C15L;
    private static final long FIRST_FACTOR = 0xBF58476D1CE4E5B9L;
    private static final long SECOND_FACTOR = 0x94D049BB133111EBL;
    private static final BigInteger ROUND = BigInteger.ONE.shiftLeft(64);

    private Seeds() { }

    /** The seed whose first DRAW is made of these 64 bits, of which it leaves out the lowest. */
    static long ofBits(long bits) {
        long second = unXor(bits, 31) * inverse(SECOND_FACTOR);
        long first = unXor(second, 27) * inverse(FIRST_FACTOR);
        return unXor(first, 30) - STEP;
    }

    /** The seed whose first DRAW is this number. */
    static long ofDraw(long drawn) {
        return ofBits(drawn << 1);
    }

    /** The seed whose DRAW number k (from 0 on) is this number. */
    static long ofDraw(long drawn, int k) {
        return ofDraw(drawn) - k * STEP;
    }

    /** DRAW number k (from 0 on) from a seed, by numbers of any size. */
    static BigInteger draw(long seed, int k) {
        BigInteger z = unsigned(STEP).multiply(BigInteger.valueOf(k + 1L)).add(unsigned(seed)).mod(ROUND);
        z = z.xor(z.shiftRight(30)).multiply(unsigned(FIRST_FACTOR)).mod(ROUND);
        z = z.xor(z.shiftRight(27)).multiply(unsigned(SECOND_FACTOR)).mod(ROUND);
        return z.xor(z.shiftRight(31)).shiftRight(1);
    }

    /** The rest by n of DRAW number k (from 0 on) from a seed. */
    static int rest(int n, long seed, int k) {
        return draw(seed, k).mod(BigInteger.valueOf(n)).intValue();
    }

    private static BigInteger unsigned(long bits) {
        return new BigInteger(Long.toUnsignedString(bits));
    }

    private static long inverse(long factor) {
        return unsigned(factor).modInverse(ROUND).longValue();
    }

    private static long unXor(long z, int shift) {
        long before = z;
        for (int i = 0; i < 64; i++) {
            before = z ^ before >>> shift;
        }
        return before;
    }
}
