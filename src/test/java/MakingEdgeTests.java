/** The edges of 3 MAKING and of promises 6 to 9, sentence by sentence. */
public final class MakingEdgeTests {
    private static final int NONE = GrammarTunes.NONE, RANGE = GrammarTunes.RANGE,
            STATE = GrammarTunes.STATE, VAIN = GrammarTunes.VAIN;
    private static final int LOW = 0, HIGH = 1, LEAP = 2, REPEATS = 3, CROSS = 4, LAST = 5, MOST = 6;
    private static final int[] AT_FIRST = {0, 127, 127, 127, 1, -1, 500};
    private static final int[] LEAST = {0, 0, 0, 0, 0, -1, 1};
    private static final int[] GREATEST = {127, 127, 127, 127, 1, 6, 3000};
    private static final Due DUE = new Due("edges of making");

    public static void main(String[] args) {
        unfolding();
        failing();
        goingBack();
        calls();
        DUE.end();
    }

    private static void unfolding() {
        DUE.sentence("MAKING, of 1 .. 16 BARS of 16 each", MakingEdgeTests::bars);
        DUE.sentence("from a seed (STATE)", MakingEdgeTests::anySeed);
        DUE.sentence("YET TO COME is at first the LETTER of the first RULE; TIME is 0", MakingEdgeTests::atFirst);
        DUE.sentence("a NOTE or REST begins at TIME, and TIME is its length more", MakingEdgeTests::begins);
        DUE.sentence("with W the sum of the WEIGHTS", MakingEdgeTests::sumOfWeights);
        DUE.sentence("of those not tried yet at this place", MakingEdgeTests::notTriedYet);
        DUE.sentence("BELOW W, by which these follow one another in order (the first WEIGHT numbers the first one,"
                + " and so on)", MakingEdgeTests::inOrder);
        DUE.sentence("that is a TRY", MakingEdgeTests::isATry);
        DUE.sentence("its SIGNS come ahead of all yet to come", MakingEdgeTests::comeAhead);
    }

    private static void failing() {
        DUE.sentence("IT FAILS, if TIME is above 16 times BARS", MakingEdgeTests::aboveTime);
        DUE.sentence("without CROSS, if it stands in two bars", MakingEdgeTests::twoBars);
        DUE.sentence("a NOTE, if its PITCH is below LOW", MakingEdgeTests::belowLow);
        DUE.sentence("or above HIGH", MakingEdgeTests::aboveHigh);
        DUE.sentence("if it is more than LEAP away from that of the NOTE ahead of it (RESTS apart)",
                MakingEdgeTests::leaps);
        DUE.sentence("if more than REPEATS NOTES one behind the other (RESTS apart) have one PITCH by it",
                MakingEdgeTests::repeats);
        DUE.sentence("IT FAILS, if more than 200 are yet to come then", MakingEdgeTests::moreThan200);
        DUE.sentence("Nothing is yet to come: it is MADE, if TIME is 16 times BARS", MakingEdgeTests::justInTime);
        DUE.sentence("with LAST, the last NOTE has that degree (there is one); else IT FAILS", MakingEdgeTests::last);
    }

    private static void goingBack() {
        DUE.sentence("WHERE IT FAILS all is as it was at the latest place with a LETTER", MakingEdgeTests::asItWas);
        DUE.sentence("(but STATE, TRIES)", MakingEdgeTests::stateGoesOn);
        DUE.sentence("another ALTERNATIVE is chosen there, if one was not tried yet at this place",
                MakingEdgeTests::anotherThere);
        DUE.sentence("else it fails there, and so on", MakingEdgeTests::andSoOn);
        DUE.sentence("without any such place: NONE", MakingEdgeTests::noSuchPlace);
        DUE.sentence("It ends with VAIN when one more TRY would be more than MOST", MakingEdgeTests::vain);
    }

    private static void calls() {
        DUE.sentence("0 LOW (0 at first), 1 HIGH (127), 2 LEAP (127), 3 REPEATS (127), 0 .. 127 each",
                () -> wantedRange(LOW, REPEATS));
        DUE.sentence("4 CROSS (0, 1; 1)", () -> wantedRange(CROSS, CROSS));
        DUE.sentence("5 LAST (-1 none, 0 .. 6; -1)", () -> wantedRange(LAST, LAST));
        DUE.sentence("6 MOST (1 .. 3000; 500)", () -> wantedRange(MOST, MOST));
        DUE.sentence("WANTED which becomes v: what it was. RANGE.", MakingEdgeTests::noSuchWanted);
        DUE.sentence("how many NOTES and RESTS: these are the TUNE then", MakingEdgeTests::tuneThen);
        DUE.sentence("NONE, VAIN: there is no TUNE", MakingEdgeTests::noTune);
        DUE.sentence("RANGE; STATE: there are no RULES", MakingEdgeTests::noRules);
        DUE.sentence("How many TRIES the latest make() made (0 before any, and if it was refused as it was before)",
                MakingEdgeTests::triesOfLatest);
        DUE.sentence("what = 0 its PITCH (NONE: a REST), 1 its length, 2 when it begins, 3 its degree (NONE)",
                MakingEdgeTests::itemsOfTune);
        DUE.sentence("RANGE: no such what; NONE: no such item", MakingEdgeTests::noSuchItem);
    }

    private static void is(String call, long due, long got) {
        DUE.is(call, due, got);
    }

    /** RULES and what is WANTED: pairs of which and v. */
    private static GrammarTunes wanting(String text, int... pairs) {
        GrammarTunes x = Due.reading(text);
        for (int i = 0; i + 1 < pairs.length; i += 2) {
            x.want(pairs[i], pairs[i + 1]);
        }
        return x;
    }

    /** What make() answers; with one ALTERNATIVE to each LETTER the seed does not matter. */
    private static void makes(int due, int bars, String text, int... pairs) {
        GrammarTunes x = wanting(text, pairs);
        StringBuilder call = new StringBuilder("make(" + bars + ") of " + text);
        for (int i = 0; i + 1 < pairs.length; i += 2) {
            call.append(", WANTED ").append(pairs[i]).append(" = ").append(pairs[i + 1]);
        }
        is(call.toString(), due, x.make(bars, 1L));
        is(call + ", items", Math.max(due, 0), x.told(2));
    }

    // ---- unfolding

    private static void bars() {
        for (int bars = 1; bars <= 16; bars++) {
            GrammarTunes x = Due.reading("S=1" + Due.times(bars / 4, "A") + Due.times(bars % 4, "B")
                    + " A=1BBBB B=1r:16");
            is(bars + " BARS", bars, x.make(bars, 0L));
            is(bars + " BARS, the last begins", 16 * (bars - 1), x.item(bars - 1, 2));
            is(bars + " BARS in one more", bars == 16 ? RANGE : NONE, x.make(bars + 1, 0L));
            is(bars + " BARS in one less", bars == 1 ? RANGE : NONE, x.make(bars - 1, 0L));
        }
        GrammarTunes x = Due.reading("S=1r:16");
        is("make(least)", RANGE, x.make(Integer.MIN_VALUE, 0L));
        is("make(greatest)", RANGE, x.make(Integer.MAX_VALUE, 0L));
        is("make(-1)", RANGE, x.make(-1, 0L));
    }

    private static void anySeed() {
        GrammarTunes x = Due.reading("S=1 0:16|1 1:16|1 2:16|1 3:16|1 4:16|1 5:16|1 6:16");
        for (long seed : new long[] {Long.MIN_VALUE, -1L, 0L, 1L, Long.MAX_VALUE, -Seeds.STEP}) {
            is("make(1, " + seed + ")", 1, x.make(1, seed));
            is("degree from " + seed, Seeds.rest(7, seed, 0), x.item(0, 3));
        }
        long refused = Seeds.ofDraw(Long.MAX_VALUE);
        x.make(1, refused);
        is("a DRAW that is not below the greatest multiple", Seeds.rest(7, refused, 1), x.item(0, 3));
    }

    private static void atFirst() {
        GrammarTunes x = Due.reading("Z=1 0:16 A=1 1:16");
        for (int again = 0; again < 2; again++) {
            is("make", 1, x.make(1, 9L));
            DUE.tune("the first RULE's", x, 60, 16, 0, 0);
        }
        x.cut(0);
        Due.write(x, "B=1 A A=1 1:16 Z=1 2:16");
        x.read();
        is("make anew", 1, x.make(1, 9L));
        DUE.tune("anew", x, 62, 16, 0, 1);
    }

    private static void begins() {
        GrammarTunes x = Due.reading("S=1 0:1 r:2 1:3 r A A=1 2:5 r:1");
        is("make", 6, x.make(1, 0L));
        DUE.tune("each", x, 60, 1, 0, 0, NONE, 2, 1, NONE, 62, 3, 3, 1, NONE, 4, 6, NONE, 64, 5, 10, 2,
                NONE, 1, 15, NONE);
    }

    private static void chooses(GrammarTunes x, long drawn, int degree) {
        is("make with the DRAW " + drawn, 1, x.make(1, Seeds.ofDraw(drawn)));
        is("degree with the DRAW " + drawn, degree, x.item(0, 3));
    }

    private static void sumOfWeights() {
        GrammarTunes x = Due.reading("S=1 0:16|999 1:16");
        chooses(x, 0, 0);
        chooses(x, 1, 1);
        chooses(x, 999, 1);
        chooses(x, 1000, 0);
        chooses(x, 1001, 1);
        // The most ALTERNATIVES with the greatest WEIGHT each.
        x = Due.reading("S=999 0:16|999 1:16" + Due.times(44, "|999 2:16") + "|999 3:16|999 4:16");
        is("W", 48 * 999, x.rule(18, 1));
        chooses(x, 998, 0);
        chooses(x, 999, 1);
        chooses(x, 1997, 1);
        chooses(x, 1998, 2);
        chooses(x, 46 * 999 - 1, 2);
        chooses(x, 46 * 999, 3);
        chooses(x, 47 * 999, 4);
        chooses(x, 48 * 999 - 1, 4);
        chooses(x, 48 * 999, 0);
    }

    /** One ALTERNATIVE of three fails; where it is tried first, W is the sum of the other two. */
    private static void notTriedYet() {
        int[] weights = {2, 5, 1};
        for (int failing = 0; failing < 3; failing++) {
            StringBuilder text = new StringBuilder("S=");
            for (int i = 0; i < 3; i++) {
                text.append(i == 0 ? "" : "|").append(weights[i]).append(' ').append(i).append(i == failing ? ":15" : ":16");
            }
            GrammarTunes x = Due.reading(text.toString());
            int one = failing == 0 ? 1 : 0;
            int other = failing == 2 ? 1 : 2;
            for (long drawn = 0; drawn < 48; drawn++) {
                long seed = Seeds.ofDraw(drawn);
                int first = drawn % 8 < 2 ? 0 : drawn % 8 < 7 ? 1 : 2;
                int second = Seeds.rest(8 - weights[failing], seed, 1) < weights[one] ? one : other;
                is("make of " + text, 1, x.make(1, seed));
                is("degree of " + text + ", DRAW " + drawn, first == failing ? second : first, x.item(0, 3));
                is("TRIES of " + text + ", DRAW " + drawn, first == failing ? 2 : 1, x.tries());
            }
        }
    }

    private static void inOrder() {
        GrammarTunes x = Due.reading("S=1 0:16|2 1:16|3 2:16|4 3:16");
        int[] degrees = {0, 1, 1, 2, 2, 2, 3, 3, 3, 3};
        for (int drawn = 0; drawn < 20; drawn++) {
            chooses(x, drawn, degrees[drawn % 10]);
        }
    }

    private static void isATry() {
        GrammarTunes x = Due.reading("S=1 A B A=1 0:8 B=1 C C=1 1:8");
        is("make", 2, x.make(1, 0L));
        is("one for each LETTER", 4, x.tries());
        x = Due.reading("S=1 r:16");
        is("make without another LETTER", 1, x.make(1, 0L));
        is("one", 1, x.tries());
        x = Due.reading("S=1 r:16 A A=1 r:1|1 r:2|1 r:3");
        is("all fail", NONE, x.make(1, 0L));
        is("those that fail, too", 4, x.tries());
    }

    private static void comeAhead() {
        GrammarTunes x = Due.reading("S=1 A 5:2 B r A=1 0:2 B 1:2 B=1 2:2 C C=1 3:1");
        is("make", 8, x.make(1, 0L));
        int[] degrees = {0, 2, 3, 1, 5, 2, 3, NONE};
        for (int i = 0; i < degrees.length; i++) {
            is("degree " + i, degrees[i], x.item(i, 3));
        }
    }

    // ---- failing

    /** It fails at the NOTE or REST ahead of a LETTER, which is no place then: one TRY. */
    private static void failsAtOnce(String text, int which, int v) {
        GrammarTunes x = wanting(text, which, v);
        is("make(2) of " + text, NONE, x.make(2, 0L));
        is("TRIES of " + text, 1, x.tries());
    }

    private static void aboveTime() {
        makes(1, 1, "S=1 0:16");
        makes(NONE, 1, "S=1 0:16 0:1");
        makes(NONE, 1, "S=1 0:16 r:1");
        makes(2, 1, "S=1 r:15 r:1");
        makes(NONE, 1, "S=1 r:15 r:2");
        makes(16, 16, "S=1 AAAA A=1r:16r:16r:16r:16");
        makes(NONE, 16, "S=1 AAAAB A=1r:16r:16r:16r:16 B=1r:1");
        failsAtOnce("S=1 r:16 r:16 r:1 A A=1 0|1 1", MOST, 500);
        // With just the whole TIME it does not fail yet.
        GrammarTunes x = Due.reading("S=1 r:16 A A=1 r:1|1 r:2");
        is("just the whole TIME", NONE, x.make(1, 0L));
        is("TRIES with just the whole TIME", 3, x.tries());
    }

    private static void twoBars() {
        String[] sounds = {"0", "r"};
        for (String sound : sounds) {
            makes(2, 2, "S=1 r:16 " + sound + ":16", CROSS, 0);
            makes(3, 2, "S=1 r:15 " + sound + ":1 r:16", CROSS, 0);
            makes(3, 2, "S=1 r:16 " + sound + ":1 r:15", CROSS, 0);
            makes(NONE, 2, "S=1 r:15 " + sound + ":2 r:15", CROSS, 0);
            makes(NONE, 2, "S=1 r:1 " + sound + ":16 r:15", CROSS, 0);
            makes(NONE, 2, "S=1 r:15 " + sound + ":16 r:1", CROSS, 0);
            failsAtOnce("S=1 r:15 " + sound + ":2 A A=1 r:15|1 r:16 r:1", CROSS, 0);
            makes(3, 2, "S=1 r:15 " + sound + ":2 r:15", CROSS, 1);
            makes(3, 2, "S=1 r:1 " + sound + ":16 r:15");
            makes(NONE, 16, "S=1 AAAC A=1r:16r:16r:16r:16 C=1r:16r:16r:15 " + sound + ":2r:15", CROSS, 0);
            makes(17, 16, "S=1 AAAC A=1r:16r:16r:16r:16 C=1r:16r:16r:15 " + sound + ":2r:15", CROSS, 1);
        }
    }

    private static void belowLow() {
        makes(1, 1, "S=1 0:16", LOW, 60);
        makes(NONE, 1, "S=1 0:16", LOW, 61);
        makes(1, 1, "S=1 0,,:16", LOW, 36);
        makes(NONE, 1, "S=1 0,,:16", LOW, 37);
        makes(1, 1, "S=1 0,,:16", LOW, 0);
        makes(NONE, 1, "S=1 6'':8 6:8", LOW, 72);
        makes(1, 1, "S=1 r:16", LOW, 127);
        makes(NONE, 1, "S=1 6'':16", LOW, 127);
        makes(NONE, 1, "S=1 0:16", LOW, 61, HIGH, 59);
        failsAtOnce("S=1 0 A A=1 r:12 r:16|1 r:16 r:16", LOW, 61);
    }

    private static void aboveHigh() {
        makes(1, 1, "S=1 0:16", HIGH, 60);
        makes(NONE, 1, "S=1 0:16", HIGH, 59);
        makes(1, 1, "S=1 6'':16", HIGH, 95);
        makes(NONE, 1, "S=1 6'':16", HIGH, 94);
        makes(1, 1, "S=1 6'':16", HIGH, 127);
        makes(NONE, 1, "S=1 0,,:8 0:8", HIGH, 59);
        makes(1, 1, "S=1 r:16", HIGH, 0);
        makes(NONE, 1, "S=1 0,,:16", HIGH, 0);
        makes(1, 1, "S=1 3:16", HIGH, 65, LOW, 65);
        failsAtOnce("S=1 0 A A=1 r:12 r:16|1 r:16 r:16", HIGH, 59);
    }

    private static void leaps() {
        makes(2, 1, "S=1 0:8 2:8", LEAP, 4);
        makes(NONE, 1, "S=1 0:8 2:8", LEAP, 3);
        makes(2, 1, "S=1 2:8 0:8", LEAP, 4);
        makes(NONE, 1, "S=1 2:8 0:8", LEAP, 3);
        makes(2, 1, "S=1 0,,:8 6'':8", LEAP, 59);
        makes(NONE, 1, "S=1 0,,:8 6'':8", LEAP, 58);
        makes(2, 1, "S=1 0,,:8 6'':8");
        makes(4, 1, "S=1 0 0 0 0", LEAP, 0);
        makes(NONE, 1, "S=1 0 0 0 0'", LEAP, 0);
        // It is the NOTE ahead alone: 60 and 65 are apart by more, but not one behind the other.
        makes(4, 1, "S=1 0 1 2 3", LEAP, 2);
        // RESTS apart; ahead of the first NOTE there is none.
        makes(3, 1, "S=1 0 r 2:8", LEAP, 4);
        makes(NONE, 1, "S=1 0 r 2:8", LEAP, 3);
        makes(NONE, 1, "S=1 0 r:2 r:2 2:8", LEAP, 3);
        makes(2, 1, "S=1 r:8 6'':8", LEAP, 0);
        makes(1, 1, "S=1 0,,:16", LEAP, 0);
        failsAtOnce("S=1 0:16 1 A A=1 r:12|1 r:16", LEAP, 1);
    }

    private static void repeats() {
        makes(NONE, 1, "S=1 0:16", REPEATS, 0);
        makes(1, 1, "S=1 r:16", REPEATS, 0);
        makes(4, 1, "S=1 0 1 0 1", REPEATS, 1);
        makes(NONE, 1, "S=1 0 1 1 0", REPEATS, 1);
        makes(4, 1, "S=1 0 0 1 1", REPEATS, 2);
        makes(4, 1, "S=1 0 0 1 0", REPEATS, 2);
        makes(NONE, 1, "S=1 1 0 0 0", REPEATS, 2);
        makes(4, 1, "S=1 1 0 0 0", REPEATS, 3);
        // RESTS apart, however many.
        makes(NONE, 1, "S=1 0 r 0 1", REPEATS, 1);
        makes(4, 1, "S=1 0 r 0 1", REPEATS, 2);
        makes(NONE, 1, "S=1 0 r r 0", REPEATS, 1);
        makes(4, 1, "S=1 r r 0 1", REPEATS, 1);
        // One degree in two octaves is not one PITCH.
        makes(4, 1, "S=1 0 0' 0 0,", REPEATS, 1);
        failsAtOnce("S=1 0:16 0 A A=1 r:12|1 r:16", REPEATS, 1);
        // At first 127: the 128th is one too many.
        makes(NONE, 16, "S=1AAAAAAAA A=1BBBB B=1 0:2 0:2 0:2 0:2");
        makes(128, 16, "S=1AAAAAAAC A=1BBBB B=1 0:2 0:2 0:2 0:2 C=1BBBD D=1 0:2 0:2 0:2 r:2");
        makes(NONE, 16, "S=1AAAAAAAC A=1BBBB B=1 0:2 0:2 0:2 0:2 C=1BBBD D=1 0:2 0:2 0:2 r:2", REPEATS, 126);
    }

    private static void unfoldsTill(int answer, int tries, String text) {
        GrammarTunes x = Due.reading(text);
        is("make of " + text, answer, x.make(13, 0L));
        is("TRIES of " + text, tries, x.tries());
    }

    private static void moreThan200() {
        // One more is yet to come by each TRY: 200 by the 199th, 201 by the 200th.
        unfoldsTill(NONE, 200, "A=1 A 0");
        unfoldsTill(NONE, 200, "A=1 A r");
        unfoldsTill(NONE, 200, "A=1 A A");
        // Eleven more by each: 199 by the 18th, 210 by the 19th.
        unfoldsTill(NONE, 19, "A=1 A" + Due.times(11, "0"));
        // 199 RESTS of 1 are yet to come behind a NOTE of 9: 200 in all, 13 bars.
        GrammarTunes x = Due.reading("S=1 S r:1|1 0:9");
        is("200 yet to come", 200, x.make(13, 4L));
        is("the last of them", 207, x.item(199, 2));
        // Behind a NOTE of 8 it would have to be 200 RESTS: each of 200 places has tried both.
        x = Due.reading("S=1 S r:1|1 0:8");
        is("201 yet to come", NONE, x.make(13, 4L));
        is("TRIES", 400, x.tries());
    }

    private static void justInTime() {
        makes(1, 1, "S=1 r:16");
        makes(NONE, 1, "S=1 r:15");
        makes(NONE, 2, "S=1 r:16");
        makes(NONE, 2, "S=1 r:16 r:15");
        makes(2, 2, "S=1 r:16 r:16");
        makes(NONE, 16, "S=1 r:16");
    }

    private static void last() {
        for (int degree = 0; degree <= 6; degree++) {
            for (int wanted = 0; wanted <= 6; wanted++) {
                makes(wanted == degree ? 1 : NONE, 1, "S=1 " + degree + ":16", LAST, wanted);
            }
            makes(1, 1, "S=1 " + degree + ":16", LAST, -1);
            makes(3, 1, "S=1 0:8 " + degree + "'' r", LAST, degree);
        }
        makes(NONE, 1, "S=1 2:8 0 r", LAST, 2);
        makes(2, 1, "S=1 2:8 0:8", LAST, 0);
        // There is no NOTE.
        makes(NONE, 1, "S=1 r:16", LAST, 0);
        makes(NONE, 1, "S=1 r:16", LAST, 6);
        makes(1, 1, "S=1 r:16", LAST, -1);
        // The last NOTE, but not the whole TIME.
        makes(NONE, 2, "S=1 2:16", LAST, 2);
    }

    // ---- going back

    /** The second DRAW chooses at A, first the ALTERNATIVE that fails: then the other one is MADE. */
    private static void madeAfterFailing(String text, int items, int... pairs) {
        GrammarTunes x = wanting(text, pairs);
        is("make of " + text, items, x.make(1, Seeds.ofDraw(0L, 1)));
        is("TRIES of " + text, 3, x.tries());
    }

    private static void asItWas() {
        // TIME, and the items that were there.
        madeAfterFailing("S=1 0:8 A A=1 1:4 r:16|1 2:8", 2);
        // What is yet to come behind the LETTER.
        madeAfterFailing("S=1 A 5:8 A=1 r:8 r:1|1 2:8", 2);
        // The NOTE ahead: 59 is near 60, but not near 62.
        madeAfterFailing("S=1 0:8 A A=1 1:4 r:16|1 6,:8", 2, LEAP, 2);
        // No NOTE ahead.
        madeAfterFailing("S=1 r:8 A A=1 0,:4 r:16|1 6'':8", 2, LEAP, 0);
        // How many NOTES have one PITCH.
        madeAfterFailing("S=1 0:8 A A=1 0:4 r:16|1 0:8", 2, REPEATS, 2);
        // The latest place: what was chosen at the one ahead of it stands.
        GrammarTunes x = Due.reading("S=1 A B A=1 0:8|1 1:8 B=1 2:4|1 2:8");
        for (long drawn = 0; drawn < 20; drawn += 2) {
            long seed = Seeds.ofDraw(drawn, 2);
            is("make, DRAW " + drawn, 2, x.make(1, seed));
            is("TRIES, DRAW " + drawn, 4, x.tries());
            is("degree at the place ahead, DRAW " + drawn, Seeds.rest(2, seed, 1), x.item(0, 3));
        }
    }

    private static void stateGoesOn() {
        GrammarTunes x = Due.reading("S=1 0|1 1|1 2:16");
        for (long seed = 0; seed < 60; seed++) {
            boolean byFirst = Seeds.rest(3, seed, 0) == 2;
            boolean bySecond = Seeds.rest(2, seed, 1) == 1;
            is("make", 1, x.make(1, seed));
            is("TRIES from " + seed, byFirst ? 1 : bySecond ? 2 : 3, x.tries());
        }
        // The place behind is come to again by other DRAWS.
        x = Due.reading("S=1 A B A=1 r:1|1 r:8 B=1 0:8|1 1:8");
        for (long drawn = 0; drawn < 20; drawn += 2) {
            long seed = Seeds.ofDraw(drawn, 1);
            is("make", 2, x.make(1, seed));
            is("TRIES, DRAW " + drawn, 6, x.tries());
            is("degree, DRAW " + drawn, Seeds.rest(2, seed, 5), x.item(1, 3));
        }
    }

    private static void anotherThere() {
        GrammarTunes x = Due.reading("S=1 0|1 1|1 2|1 3:16");
        for (long seed = 0; seed < 40; seed++) {
            is("make", 1, x.make(1, seed));
            is("each is tried once at most", 1, x.tries() <= 4 ? 1 : 0);
        }
        // At a place that is come to anew, none was tried yet: two for each of the two ahead.
        x = Due.reading("S=1 A A A=1 0|1 0:16");
        is("two places", NONE, x.make(1, 4L));
        is("TRIES at two places", 7, x.tries());
        x = Due.reading("S=1 A A A A=1 0:1|1 0:2|1 0:3");
        is("three places", NONE, x.make(1, 4L));
        is("TRIES at three places", 1 + 3 + 9 + 27, x.tries());
        // The most ALTERNATIVES of one LETTER, the last of them alone is not too short.
        x = Due.reading("S=" + Due.times(47, "1 0|") + "1 0:16");
        for (long seed = 0; seed < 40; seed++) {
            is("make of 48", 1, x.make(1, seed));
        }
        x = Due.reading("S=" + Due.times(47, "1 0|") + "1 0");
        is("all 48 fail", NONE, x.make(1, 4L));
        is("TRIES of 48", 48, x.tries());
    }

    private static void andSoOn() {
        // At B and C nothing is left to choose: it goes back to A.
        GrammarTunes x = Due.reading("S=1 A B C A=1 0:4|1 0:8 B=1 1:4 C=1 2:4");
        is("over two places", 3, x.make(1, Seeds.ofDraw(0L, 1)));
        is("TRIES over two places", 7, x.tries());
        is("the first one's length", 8, x.item(0, 1));
        // Back over 199 places to the first one, where the short way is left.
        x = Due.reading("S=1 A|1 r:16 A=1 A 0");
        is("over 199 places", 1, x.make(1, Seeds.ofDraw(0L)));
        is("TRIES over 199 places", 202, x.tries());
        overAllPlaces();
    }

    /** As many places as there can be, each with one ALTERNATIVE, all of them gone back over. */
    private static void overAllPlaces() {
        String chain = "C=1D D=1E E=1F F=1G G=1H H=1I I=1J J=1K K=1L L=1M M=1r:1";
        int all = 1 + 8 + 8 + 64 + 64 + 11 * 256;
        GrammarTunes x = wanting("S=1AAAAAAAA A=1Y Y=1BBBBBBBB B=1X X=1CCCC " + chain, MOST, 3000);
        is("over no place", 256, x.make(16, 1L));
        is("TRIES over no place", all, x.tries());
        x.want(LAST, 0);
        is("over " + all + " places", NONE, x.make(16, 1L));
        is("TRIES over them", all, x.tries());
        x.want(MOST, all);
        is("MOST is just as many", NONE, x.make(16, 1L));
        x.want(MOST, all - 1);
        is("MOST is one less", VAIN, x.make(16, 1L));
        is("TRIES with one less", all - 1, x.tries());
        // 1 + 6 * (1 + 3 * (1 + 12 * 13)) + (1 + 12 * 13) + 10 places.
        x = wanting("S=1AAAAAABF A=1BBB B=1" + Due.times(12, "C") + " C=1D D=1E E=1F F=1G G=1H H=1I I=1J J=1K K=1L"
                + " L=1M M=1N N=1O O=1r:1", MOST, 3000);
        is("over 3000 places", NONE, x.make(16, 1L));
        is("TRIES over 3000 places", 3000, x.tries());
    }

    private static void noSuchPlace() {
        GrammarTunes x = Due.reading("S=1 0");
        is("one", NONE, x.make(1, 0L));
        is("TRIES of one", 1, x.tries());
        x = Due.reading("S=1 A A=1 B B=1 0");
        is("three", NONE, x.make(1, 0L));
        is("TRIES of three", 3, x.tries());
        // Also with just as many TRIES as MOST: none more is to be made.
        x = wanting("S=1 A A=1 B B=1 0", MOST, 3);
        is("three of three", NONE, x.make(1, 0L));
    }

    private static void endsAt(int most, int answer, int tries, String text) {
        GrammarTunes x = wanting(text, MOST, most);
        is("make of " + text + ", MOST " + most, answer, x.make(1, 0L));
        is("TRIES of " + text + ", MOST " + most, tries, x.tries());
    }

    private static void vain() {
        endsAt(1, 1, 1, "S=1 r:16");
        endsAt(1, VAIN, 1, "S=1 A A=1 r:16");
        endsAt(2, 1, 2, "S=1 A A=1 r:16");
        endsAt(1, NONE, 1, "S=1 r:15");
        endsAt(1, VAIN, 1, "S=1 r:15|1 r:14");
        endsAt(2, NONE, 2, "S=1 r:15|1 r:14");
        endsAt(199, VAIN, 199, "S=1 S 0");
        endsAt(200, NONE, 200, "S=1 S 0");
        endsAt(2999, VAIN, 2999, "S=1 S");
        endsAt(3000, VAIN, 3000, "S=1 S");
        endsAt(3000, VAIN, 3000, "S=1 S|1 S|1 S 0");
        GrammarTunes x = Due.reading("S=1 S");
        is("MOST at first", VAIN, x.make(1, 0L));
        is("TRIES at first", 500, x.tries());
    }

    // ---- the calls want, make, tries and item

    private static void wantedRange(int from, int to) {
        for (int which = from; which <= to; which++) {
            GrammarTunes x = new GrammarTunes();
            int[] wrong = {LEAST[which] - 1, GREATEST[which] + 1, Integer.MIN_VALUE, Integer.MAX_VALUE, -2, 3001};
            for (int v : wrong) {
                is("want(" + which + ", " + v + ")", RANGE, x.want(which, v));
            }
            int before = AT_FIRST[which];
            for (int v = LEAST[which]; v <= GREATEST[which]; v += which == MOST ? 2999 : 1) {
                is("want(" + which + ", " + v + ")", before, x.want(which, v));
                before = v;
            }
            is("want(" + which + ") too great", RANGE, x.want(which, GREATEST[which] + 1));
            is("want(" + which + ") as it was", before, x.want(which, AT_FIRST[which]));
        }
    }

    private static void noSuchWanted() {
        GrammarTunes x = new GrammarTunes();
        for (int which : new int[] {-1, 7, 8, Integer.MIN_VALUE, Integer.MAX_VALUE}) {
            is("want(" + which + ", 1)", RANGE, x.want(which, 1));
        }
        for (int which = 0; which < 7; which++) {
            is("want(" + which + ") as at first", AT_FIRST[which], x.want(which, LEAST[which]));
        }
        for (int which = 0; which < 7; which++) {
            is("want(" + which + ") what it was", LEAST[which], x.want(which, GREATEST[which]));
        }
    }

    private static void tuneThen() {
        GrammarTunes x = Due.reading("S=1 r:1 0:2 r:3 1:10");
        is("NOTES and RESTS", 4, x.make(1, 0L));
        is("the TUNE", 4, x.told(2));
        x.cut(0);
        Due.write(x, "S=1 1:16");
        x.read();
        x.want(LOW, 127);
        DUE.tune("it stays", x, NONE, 1, 0, NONE, 60, 2, 1, 0, NONE, 3, 3, NONE, 62, 10, 6, 1);
        x.want(LOW, 0);
        is("another", 1, x.make(1, 0L));
        DUE.tune("another", x, 62, 16, 0, 1);
        is("not the one before", NONE, x.item(1, 0));
        x = Due.reading("S=1 AAAAAAAA A=1 BBBB B=1 CC C=1 0:1 r:1 1:1 r:1");
        is("the most items", 256, x.make(16, 0L));
        is("the last of them", NONE, x.item(255, 0));
        is("the last one begins", 255, x.item(255, 2));
        is("none behind it", NONE, x.item(256, 2));
    }

    private static void noTune() {
        GrammarTunes x = Due.reading("S=1 0:8 A A=1 1:8");
        is("made", 2, x.make(1, 0L));
        is("NONE", NONE, x.make(2, 0L));
        is("no TUNE by NONE", 0, x.told(2));
        is("no item by NONE", NONE, x.item(0, 1));
        is("made again", 2, x.make(1, 0L));
        x.want(MOST, 1);
        is("VAIN", VAIN, x.make(1, 0L));
        is("no TUNE by VAIN", 0, x.told(2));
        is("no item by VAIN", NONE, x.item(0, 1));
    }

    private static void noRules() {
        GrammarTunes x = new GrammarTunes();
        is("no text", STATE, x.make(1, 0L));
        is("no text, 16 BARS", STATE, x.make(16, 0L));
        is("no text, 0 BARS", RANGE, x.make(0, 0L));
        is("no text, 17 BARS", RANGE, x.make(17, 0L));
        Due.write(x, "S=1 r:16");
        is("not read", STATE, x.make(1, 0L));
        x.cut(7);
        x.text('?');
        is("a FAULT", -17, x.read());
        is("read with a FAULT", STATE, x.make(1, 0L));
        x.cut(0);
        Due.write(x, "S=1 r:16");
        x.read();
        is("read", 1, x.make(1, 0L));
        x.cut(0);
        is("the text is not needed", 1, x.make(1, 0L));
    }

    private static void triesOfLatest() {
        GrammarTunes x = new GrammarTunes();
        is("before any", 0, x.tries());
        x.make(1, 0L);
        is("refused by STATE before any", 0, x.tries());
        x.make(0, 0L);
        is("refused by RANGE before any", 0, x.tries());
        Due.write(x, "S=1 A A=1 0|1 1:16");
        x.read();
        is("read is not made", 0, x.tries());
        x.make(2, 0L);
        is("by NONE", 3, x.tries());
        x.make(0, 0L);
        is("refused by RANGE", 3, x.tries());
        x.make(17, 0L);
        is("refused by RANGE above", 3, x.tries());
        x.want(MOST, 1);
        x.make(1, 0L);
        is("by VAIN", 1, x.tries());
        x.want(MOST, 500);
        x.make(1, Seeds.ofDraw(1L, 1));
        is("made, counted anew", 2, x.tries());
    }

    private static void itemsOfTune() {
        GrammarTunes x = Due.reading("S=1 0,,:1 r:1 6'':14");
        is("make", 3, x.make(1, 0L));
        DUE.tune("the lowest, a REST, the highest", x, 36, 1, 0, 0, NONE, 1, 1, NONE, 95, 14, 2, 6);
    }

    private static void noSuchItem() {
        GrammarTunes x = new GrammarTunes();
        is("without a TUNE", NONE, x.item(0, 0));
        is("without a TUNE, no such what", RANGE, x.item(0, 4));
        Due.write(x, "S=1 0:8 1:8");
        x.read();
        x.make(1, 0L);
        for (int i : new int[] {Integer.MIN_VALUE, -1, 0, 1, 2, 3, Integer.MAX_VALUE}) {
            for (int what : new int[] {Integer.MIN_VALUE, -1, 4, 5, Integer.MAX_VALUE}) {
                is("item(" + i + ", " + what + ")", RANGE, x.item(i, what));
            }
            for (int what = 0; what <= 3 && (i < 0 || i > 1); what++) {
                is("item(" + i + ", " + what + ")", NONE, x.item(i, what));
            }
        }
    }
}
