/** The edges of 4 A CHAIN and of promises 11 to 15, sentence by sentence. */
public final class ChainEdgeTests {
    private static final int RANGE = GrammarTunes.RANGE, STATE = GrammarTunes.STATE, FULL = GrammarTunes.FULL;
    private static final Due DUE = new Due("edges of chains");

    public static void main(String[] args) {
        walks();
        calls();
        DUE.end();
    }

    private static void walks() {
        DUE.sentence("THE CORPUS has numbers, 300 at most", ChainEdgeTests::most300);
        DUE.sentence("A WALK of order k (1 .. 3)", ChainEdgeTests::orders);
        DUE.sentence("from a seed", ChainEdgeTests::anySeed);
        DUE.sentence("it begins with k numbers, those of THE CORPUS from a place on", ChainEdgeTests::begins);
        DUE.sentence("of all places in THE CORPUS that have just the k latest numbers of the walk ahead of them",
                ChainEdgeTests::aheadOfThem);
        DUE.sentence("in order, the one told by BELOW how many there are: the number there is the next one",
                ChainEdgeTests::inOrder);
        DUE.sentence("if there are none: the next number is the one that stands at the place where the walk began",
                ChainEdgeTests::none);
    }

    private static void calls() {
        DUE.sentence("A number comes behind THE CORPUS: how many it has. FULL.", ChainEdgeTests::full);
        DUE.sentence("THE CORPUS is empty: how many it had", ChainEdgeTests::empty);
        DUE.sentence("with n numbers (0 .. 200) more", ChainEdgeTests::more);
        DUE.sentence("they are kept in place of those before: how many in all", ChainEdgeTests::inPlace);
        DUE.sentence("RANGE: k, n", ChainEdgeTests::range);
        DUE.sentence("STATE: THE CORPUS has not k numbers from there on", ChainEdgeTests::notSoMany);
        DUE.sentence("Number i of the latest WALK; 0 where there is none such", ChainEdgeTests::noneSuch);
        DUE.sentence("How many numbers the latest WALK has (0 without)", ChainEdgeTests::without);
    }

    private static void is(String call, long due, long got) {
        DUE.is(call, due, got);
    }

    /** A full CORPUS: 0 .. 299, each once. */
    private static GrammarTunes counting() {
        GrammarTunes x = new GrammarTunes();
        for (int i = 0; i < 300; i++) {
            x.corpus(i);
        }
        return x;
    }

    // ---- walks

    private static void most300() {
        GrammarTunes x = new GrammarTunes();
        for (int i = 1; i <= 300; i++) {
            is("corpus", i, x.corpus(7 * i));
        }
        is("the 301st", FULL, x.corpus(1));
        is("numbers", 300, x.told(3));
        is("walk to the last", 2, x.walk(1, 298, 1, 0L));
        DUE.steps("the last two", x, 7 * 299, 7 * 300);
        is("nothing is behind the last", 2, x.walk(1, 299, 1, 0L));
        DUE.steps("the last again", x, 7 * 300, 7 * 300);
    }

    private static void orders() {
        GrammarTunes x = Due.corpusOf(1, 2, 3, 1, 2, 4);
        is("order 0", RANGE, x.walk(0, 0, 1, 0L));
        is("order 1", 2, x.walk(1, 0, 1, 0L));
        is("order 2", 3, x.walk(2, 0, 1, 0L));
        is("order 3", 4, x.walk(3, 0, 1, 0L));
        is("order 4", RANGE, x.walk(4, 0, 1, 0L));
        is("order -1", RANGE, x.walk(-1, 0, 1, 0L));
        is("order least", RANGE, x.walk(Integer.MIN_VALUE, 0, 1, 0L));
        is("order greatest", RANGE, x.walk(Integer.MAX_VALUE, 0, 1, 0L));
        is("the WALK of order 3", 4, x.steps());
    }

    private static void anySeed() {
        int[] behind = {10, 11, 12, 13, 14};
        GrammarTunes x = Due.corpusOf(0, 10, 0, 11, 0, 12, 0, 13, 0, 14);
        for (long seed : new long[] {Long.MIN_VALUE, -1L, 0L, 1L, Long.MAX_VALUE, -Seeds.STEP}) {
            is("walk", 2, x.walk(1, 0, 1, seed));
            is("from " + seed, behind[Seeds.rest(5, seed, 0)], x.step(1));
        }
        long refused = Seeds.ofDraw(Long.MAX_VALUE);
        x.walk(1, 0, 1, refused);
        is("a DRAW that is not below the greatest multiple", behind[Seeds.rest(5, refused, 1)], x.step(1));
    }

    private static void begins() {
        GrammarTunes x = Due.corpusOf(5, 6, 7, 8, 9);
        for (int k = 1; k <= 3; k++) {
            for (int place = 0; place + k <= 5; place++) {
                is("walk(" + k + ", " + place + ", 0)", k, x.walk(k, place, 0, 0L));
                for (int i = 0; i < k; i++) {
                    is("step(" + i + ")", 5 + place + i, x.step(i));
                }
            }
        }
    }

    private static void aheadOfThem() {
        // Of order 2 both numbers count, and in their order.
        GrammarTunes x = Due.corpusOf(1, 2, 3, 2, 1, 4, 9, 2, 5, 1, 9, 6, 1, 2);
        for (long seed = 0; seed < 10; seed++) {
            is("order 2", 3, x.walk(2, 0, 1, seed));
            DUE.steps("order 2", x, 1, 2, 3);
        }
        // Of order 3 all three.
        x = Due.corpusOf(1, 2, 3, 4, 9, 2, 3, 5, 1, 9, 3, 6, 1, 2, 9, 7);
        for (long seed = 0; seed < 10; seed++) {
            is("order 3", 4, x.walk(3, 0, 1, seed));
            DUE.steps("order 3", x, 1, 2, 3, 4);
        }
        // THE CORPUS does not go round: nothing is behind its last number, nothing ahead of its first.
        x = Due.corpusOf(4, 1, 2, 1);
        for (long seed = 0; seed < 10; seed++) {
            is("order 1 at the end", 3, x.walk(1, 3, 2, seed));
            DUE.steps("order 1 at the end", x, 1, 2, 1);
        }
        x = Due.corpusOf(2, 5, 1, 2);
        is("order 2 at the end", 3, x.walk(2, 2, 1, 0L));
        DUE.steps("order 2 at the end", x, 1, 2, 1);
        // They may lie over one another: behind 1 1 there are 1, 2 and 3.
        int[] behind = {1, 2, 3};
        x = Due.corpusOf(1, 1, 1, 2, 1, 1, 3);
        for (long seed = 0; seed < 20; seed++) {
            x.walk(2, 0, 1, seed);
            is("over one another from " + seed, behind[Seeds.rest(3, seed, 0)], x.step(2));
        }
        // Numbers that a narrower kind would hold for the same.
        x = Due.corpusOf(1, 8, 65537, 9, Integer.MIN_VALUE, 7, 257, 6, -1, 5, Integer.MAX_VALUE, 4);
        int[] firsts = {1, 65537, Integer.MIN_VALUE, 257, -1, Integer.MAX_VALUE};
        int[] seconds = {8, 9, 7, 6, 5, 4};
        for (int i = 0; i < firsts.length; i++) {
            x.walk(1, 2 * i, 1, 3L);
            DUE.steps("any number", x, firsts[i], seconds[i]);
        }
    }

    private static void inOrder() {
        GrammarTunes x = Due.corpusOf(0, 10, 0, 11, 0, 12, 0, 10);
        int[] behind = {10, 11, 12, 10};
        for (int drawn = 0; drawn < 9; drawn++) {
            is("walk", 2, x.walk(1, 0, 1, Seeds.ofDraw(drawn)));
            is("DRAW " + drawn, behind[drawn % 4], x.step(1));
        }
        // One place alone is told by BELOW 1: this is a DRAW too.
        x = Due.corpusOf(0, 1, 2, 1, 3);
        for (long seed = 0; seed < 20; seed++) {
            is("walk of one, then of two", 3, x.walk(1, 0, 2, seed));
            DUE.steps("from " + seed, x, 0, 1, Seeds.rest(2, seed, 1) == 0 ? 2 : 3);
        }
        // The most places there can be.
        x = new GrammarTunes();
        for (int i = 0; i < 300; i++) {
            x.corpus(i < 299 ? 0 : 1);
        }
        x.walk(1, 0, 1, Seeds.ofDraw(297L));
        is("the last but one of 299", 0, x.step(1));
        x.walk(1, 0, 1, Seeds.ofDraw(298L));
        is("the last of 299", 1, x.step(1));
        x.walk(1, 0, 1, Seeds.ofDraw(299L));
        is("the first of 299", 0, x.step(1));
    }

    private static void none() {
        GrammarTunes x = Due.corpusOf(1, 2, 3, 4, 5);
        is("order 1", 7, x.walk(1, 2, 6, 0L));
        DUE.steps("order 1", x, 3, 4, 5, 3, 4, 5, 3);
        is("order 2", 6, x.walk(2, 3, 4, 0L));
        DUE.steps("order 2: the number at the place alone", x, 4, 5, 4, 4, 4, 4);
        is("order 3", 6, x.walk(3, 2, 3, 0L));
        DUE.steps("order 3", x, 3, 4, 5, 3, 3, 3);
        x = Due.corpusOf(8);
        is("one number", 4, x.walk(1, 0, 3, 0L));
        DUE.steps("one number", x, 8, 8, 8, 8);
        noDrawThen();
    }

    /** Behind 7 there is none: the walk goes on with 0, and the DRAW that was not made tells what follows. */
    private static void noDrawThen() {
        int[] behind = {3, 4, 7};
        for (long seed = 0; seed < 40; seed++) {
            GrammarTunes x = Due.corpusOf(0, 3, 0, 4, 0, 7);
            is("walk", 9, x.walk(1, 4, 8, seed));
            int draws = 0;
            int latest = 0;
            for (int i = 1; i < 9; i++) {
                int before = latest;
                latest = before == 0 ? behind[Seeds.rest(3, seed, draws)] : 0;
                draws += before == 7 ? 0 : 1;
                is("step(" + i + ") from " + seed, latest, x.step(i));
            }
        }
    }

    // ---- the calls corpus, forget, walk, step and steps

    private static void full() {
        GrammarTunes x = counting();
        is("full", FULL, x.corpus(5));
        is("full again", FULL, x.corpus(Integer.MIN_VALUE));
        is("as many", 300, x.told(3));
        x.walk(1, 299, 0, 0L);
        is("the last one is as before", 299, x.step(0));
        x.forget();
        is("room again", 1, x.corpus(5));
        x = new GrammarTunes();
        is("any number", 1, x.corpus(Integer.MIN_VALUE));
        is("any number more", 2, x.corpus(Integer.MAX_VALUE));
        is("-1", 3, x.corpus(-1));
        x.walk(3, 0, 0, 0L);
        DUE.steps("any number", x, Integer.MIN_VALUE, Integer.MAX_VALUE, -1);
    }

    private static void empty() {
        GrammarTunes x = new GrammarTunes();
        is("nothing to forget", 0, x.forget());
        x = counting();
        x.walk(2, 10, 0, 0L);
        is("all", 300, x.forget());
        is("none are left", 0, x.told(3));
        is("again", 0, x.forget());
        is("no walk", STATE, x.walk(1, 0, 0, 0L));
        DUE.steps("the WALK stays", x, 10, 11);
        is("a first number", 1, x.corpus(77));
        is("not those before", STATE, x.walk(2, 0, 0, 0L));
        is("walk", 3, x.walk(1, 0, 2, 0L));
        DUE.steps("none of those before follows", x, 77, 77, 77);
    }

    private static void more() {
        GrammarTunes x = counting();
        is("n = -1", RANGE, x.walk(1, 0, -1, 0L));
        is("n = 0", 1, x.walk(1, 0, 0, 0L));
        is("n = 1", 2, x.walk(1, 0, 1, 0L));
        is("n = 200", 201, x.walk(1, 0, 200, 0L));
        is("the last", 200, x.step(200));
        is("n = 200, order 3", 203, x.walk(3, 90, 200, 0L));
        is("the last, order 3", 292, x.step(202));
        is("none behind it", 0, x.step(203));
        is("n = 201", RANGE, x.walk(1, 0, 201, 0L));
        is("n = 201, order 3", RANGE, x.walk(3, 0, 201, 0L));
        is("n least", RANGE, x.walk(1, 0, Integer.MIN_VALUE, 0L));
        is("n greatest", RANGE, x.walk(1, 0, Integer.MAX_VALUE, 0L));
        is("the WALK before", 203, x.steps());
    }

    private static void inPlace() {
        GrammarTunes x = Due.corpusOf(1, 2, 3, 4, 5);
        is("a longer one", 5, x.walk(2, 0, 3, 0L));
        is("a shorter one", 2, x.walk(1, 3, 1, 0L));
        DUE.steps("the shorter one alone", x, 4, 5);
        is("nothing of the longer one", 0, x.step(2));
        is("nothing of its last", 0, x.step(4));
        is("in all", 2, x.steps());
    }

    private static void range() {
        GrammarTunes x = Due.corpusOf(1, 2, 3);
        int[][] wrong = {{0, 0}, {4, 0}, {-1, 0}, {1, -1}, {1, 201}, {0, 201}, {4, -1}};
        for (int[] pair : wrong) {
            is("walk(" + pair[0] + ", 0, " + pair[1] + ")", RANGE, x.walk(pair[0], 0, pair[1], 0L));
            is("walk(" + pair[0] + ", 3, " + pair[1] + ")", RANGE, x.walk(pair[0], 3, pair[1], 0L));
            is("walk(" + pair[0] + ", -1, " + pair[1] + ")", RANGE, x.walk(pair[0], -1, pair[1], 0L));
        }
        is("no WALK", 0, x.steps());
        is("RANGE with no number", RANGE, new GrammarTunes().walk(4, 0, 0, 0L));
    }

    private static void notSoMany() {
        GrammarTunes x = new GrammarTunes();
        is("no number", STATE, x.walk(1, 0, 0, 0L));
        for (int size = 1; size <= 5; size++) {
            x.corpus(size);
            for (int k = 1; k <= 3; k++) {
                for (int place = -2; place <= size + 1; place++) {
                    int due = place < 0 || place + k > size ? STATE : k + 1;
                    is("walk(" + k + ", " + place + ") of " + size, due, x.walk(k, place, 1, 0L));
                }
                is("walk(" + k + ", least) of " + size, STATE, x.walk(k, Integer.MIN_VALUE, 1, 0L));
                is("walk(" + k + ", greatest) of " + size, STATE, x.walk(k, Integer.MAX_VALUE, 1, 0L));
            }
        }
        x.walk(1, 4, 0, 0L);
        x.walk(1, 5, 0, 0L);
        DUE.steps("the WALK before", x, 5);
    }

    private static void noneSuch() {
        GrammarTunes x = Due.corpusOf(6, 7, 8);
        is("without a WALK", 0, x.step(0));
        x.walk(2, 1, 1, 0L);
        is("step(-1)", 0, x.step(-1));
        is("step(0)", 7, x.step(0));
        is("step(2)", 7, x.step(2));
        is("step(3)", 0, x.step(3));
        is("step(203)", 0, x.step(203));
        is("step(least)", 0, x.step(Integer.MIN_VALUE));
        is("step(greatest)", 0, x.step(Integer.MAX_VALUE));
    }

    private static void without() {
        GrammarTunes x = new GrammarTunes();
        is("a new object", 0, x.steps());
        x.walk(1, 0, 1, 0L);
        is("refused by STATE", 0, x.steps());
        x.corpus(1);
        x.walk(4, 0, 1, 0L);
        is("refused by RANGE", 0, x.steps());
        x.walk(1, 0, 200, 0L);
        is("with one", 201, x.steps());
        x.walk(1, 1, 0, 0L);
        is("refused, as before", 201, x.steps());
    }
}
