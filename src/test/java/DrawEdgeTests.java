import java.math.BigInteger;

/** The edges of 1 DRAWS and of promise 10, sentence by sentence. */
public final class DrawEdgeTests {
    private static final int RANGE = GrammarTunes.RANGE;
    private static final Due DUE = new Due("edges of draws");
    private static final BigInteger TWO_63 = BigInteger.ONE.shiftLeft(63);
    private static final int[] NO_POWERS = {3, 5, 6, 7, 1000, 5000, (1 << 30) + 1, Integer.MAX_VALUE - 1,
        Integer.MAX_VALUE};

    public static void main(String[] args) {
        DUE.sentence("A DRAW makes STATE (64 bits, going round) greater by 0x9E3779B97F4A7C15",
                DrawEdgeTests::stateGoesRound);
        DUE.sentence("it is the highest 63 bits of z ^ z >>> 31 (z >>> 1 of that)",
                DrawEdgeTests::highestBits);
        DUE.sentence("DRAWS, till one is below the greatest multiple of n that is not above 2^63",
                DrawEdgeTests::belowTheGreatestMultiple);
        DUE.sentence("the greatest multiple of n that is not above 2^63", DrawEdgeTests::twoTo63Itself);
        DUE.sentence("its rest by n", DrawEdgeTests::restByN);
        DUE.sentence("the k-th one (from 0 on)", DrawEdgeTests::kThOne);
        DUE.sentence("RANGE: n is below 1", DrawEdgeTests::nBelowOne);
        DUE.sentence("RANGE: n is below 1, k not 0 .. 1000", DrawEdgeTests::kOutside);
        DUE.end();
    }

    private static void is(String call, long due, long got) {
        DUE.is(call, due, got);
    }

    /** The greatest multiple of a number that is no power of two: 2^63 less its rest. */
    private static long greatestMultiple(int n) {
        return TWO_63.subtract(TWO_63.mod(BigInteger.valueOf(n))).longValueExact();
    }

    private static void stateGoesRound() {
        long[] seeds = {0L, 1L, -1L, Long.MAX_VALUE, Long.MIN_VALUE, -Seeds.STEP, -Seeds.STEP - 1, -Seeds.STEP + 1,
            Long.MAX_VALUE - Seeds.STEP, Long.MIN_VALUE - Seeds.STEP, -2 * Seeds.STEP};
        GrammarTunes x = new GrammarTunes();
        for (long seed : seeds) {
            for (int k = 0; k < 4; k++) {
                for (int n : new int[] {1 << 30, 999983}) {
                    is("below(" + seed + ", " + n + ", " + k + ")", Seeds.rest(n, seed, k), x.below(seed, n, k));
                }
            }
        }
        is("STATE goes round to 0", 0, x.below(-Seeds.STEP, Integer.MAX_VALUE, 0));
        long[] known = {0xE220A8397B1DCDAFL, 0x6E789E6AA1B965F4L, 0x06C45D188009454FL};
        for (int k = 0; k < known.length; k++) {
            is("known bits " + k, (known[k] >>> 1) % 999983, x.below(0L, 999983, k));
        }
    }

    private static void highestBits() {
        GrammarTunes x = new GrammarTunes();
        is("of 0", 0, x.below(Seeds.ofBits(0L), 1000, 0));
        is("of 1: the lowest bit is left out", 0, x.below(Seeds.ofBits(1L), 1000, 0));
        is("of 2", 1, x.below(Seeds.ofBits(2L), 1000, 0));
        is("of 3", 1, x.below(Seeds.ofBits(3L), 1000, 0));
        is("of 2^63: the highest bit counts", (1L << 62) % 1000,
                x.below(Seeds.ofBits(Long.MIN_VALUE), 1000, 0));
        is("of 2^64 - 1: not below 0", 1023, x.below(Seeds.ofBits(-1L), 1024, 0));
    }

    private static void belowTheGreatestMultiple() {
        for (int n : NO_POWERS) {
            GrammarTunes x = new GrammarTunes();
            long last = Seeds.ofDraw(greatestMultiple(n) - 1);
            is("one below, n = " + n, n - 1, x.below(last, n, 0));
            long first = Seeds.ofDraw(greatestMultiple(n));
            is("just the multiple, n = " + n, Seeds.rest(n, first, 1), x.below(first, n, 0));
            long greatest = Seeds.ofDraw(Long.MAX_VALUE);
            is("2^63 - 1, n = " + n, Seeds.rest(n, greatest, 1), x.below(greatest, n, 0));
        }
    }

    /** What is not above 2^63 may be 2^63: then no DRAW is refused. */
    private static void twoTo63Itself() {
        GrammarTunes x = new GrammarTunes();
        long greatest = Seeds.ofDraw(Long.MAX_VALUE);
        for (int bits = 0; bits <= 30; bits++) {
            int n = 1 << bits;
            is("2^63 - 1, n = " + n, n - 1, x.below(greatest, n, 0));
            is("2^63 - 1 then the next, n = " + n, Seeds.rest(n, greatest, 1), x.below(greatest, n, 1));
        }
    }

    private static void restByN() {
        GrammarTunes x = new GrammarTunes();
        for (int n : NO_POWERS) {
            is("0 by " + n, 0, x.below(Seeds.ofDraw(0L), n, 0));
            is("n - 1 by " + n, n - 1, x.below(Seeds.ofDraw(n - 1L), n, 0));
            is("n by " + n, 0, x.below(Seeds.ofDraw(n), n, 0));
            is("n + 1 by " + n, 1, x.below(Seeds.ofDraw(n + 1L), n, 0));
        }
        is("by 1", 0, x.below(Seeds.ofDraw(77L), 1, 0));
    }

    private static void kThOne() {
        GrammarTunes x = new GrammarTunes();
        is("0", Seeds.rest(97, 5L, 0), x.below(5L, 97, 0));
        is("1", Seeds.rest(97, 5L, 1), x.below(5L, 97, 1));
        is("1000", Seeds.rest(97, 5L, 1000), x.below(5L, 97, 1000));
        long refused = Seeds.ofDraw(Long.MAX_VALUE);
        is("a refused DRAW is none of them", Seeds.rest(3, refused, 2), x.below(refused, 3, 1));
        long later = Seeds.ofDraw(Long.MAX_VALUE, 3);
        is("ahead of the refused DRAW", Seeds.rest(3, later, 2), x.below(later, 3, 2));
        is("at the refused DRAW", Seeds.rest(3, later, 4), x.below(later, 3, 3));
        is("behind the refused DRAW", Seeds.rest(3, later, 1001), x.below(later, 3, 1000));
    }

    private static void nBelowOne() {
        GrammarTunes x = new GrammarTunes();
        is("n = 1", 0, x.below(0L, 1, 0));
        is("n = 0", RANGE, x.below(0L, 0, 0));
        is("n = -1", RANGE, x.below(0L, -1, 0));
        is("n least", RANGE, x.below(0L, Integer.MIN_VALUE, 0));
        is("n greatest", Seeds.rest(Integer.MAX_VALUE, 0L, 0), x.below(0L, Integer.MAX_VALUE, 0));
    }

    private static void kOutside() {
        GrammarTunes x = new GrammarTunes();
        is("k = -1", RANGE, x.below(0L, 9, -1));
        is("k = 0", Seeds.rest(9, 0L, 0), x.below(0L, 9, 0));
        is("k = 1000", Seeds.rest(9, 0L, 1000), x.below(0L, 9, 1000));
        is("k = 1001", RANGE, x.below(0L, 9, 1001));
        is("k least", RANGE, x.below(0L, 9, Integer.MIN_VALUE));
        is("k greatest", RANGE, x.below(0L, 9, Integer.MAX_VALUE));
        is("n and k", RANGE, x.below(0L, 0, -1));
    }
}
