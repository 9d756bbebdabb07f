/** Each promise by itself: ordinary inputs, the edges that the document names, wrong inputs. */
public final class PromiseTests {
    private static final int NONE = GrammarTunes.NONE, RANGE = GrammarTunes.RANGE,
            STATE = GrammarTunes.STATE, FULL = GrammarTunes.FULL, VAIN = GrammarTunes.VAIN;
    private static final Due DUE = new Due("promises");

    public static void main(String[] args) {
        newObject();
        text();
        cut();
        readsRules();
        readsFaults();
        readsLimits();
        readsAnew();
        rule();
        want();
        makes();
        makeKeepsWhatIsWanted();
        makeFailsAndEnds();
        tries();
        item();
        below();
        corpusAndForget();
        walk();
        stepAndSteps();
        stroke();
        turned();
        placeAndForm();
        doubled();
        told();
        DUE.end();
    }

    private static void is(String call, long due, long got) {
        DUE.is(call, due, got);
    }

    private static void newObject() {
        GrammarTunes x = new GrammarTunes();
        for (int what = 0; what <= 5; what++) {
            is("1 new: told(" + what + ")", 0, x.told(what));
        }
        is("1 new: tries()", 0, x.tries());
        is("1 new: steps()", 0, x.steps());
        is("1 new: step(0)", 0, x.step(0));
        is("1 new: item(0, 1)", NONE, x.item(0, 1));
        is("1 new: make(1, 0)", STATE, x.make(1, 0));
        is("1 new: rule(0, 0)", NONE, x.rule(0, 0));
        is("1 new: forget()", 0, x.forget());
        for (int i = 0; i < 12; i++) {
            is("1 new: form(0, 0, " + i + ")", i, x.form(0, 0, i));
        }
        int[] wanted = {0, 127, 127, 127, 1, -1, 500};
        for (int i = 0; i < 7; i++) {
            is("1 new: want(" + i + ")", wanted[i], x.want(i, wanted[i]));
        }
    }

    private static void text() {
        GrammarTunes x = new GrammarTunes();
        is("2 text: nothing", 0, x.text(0L));
        is("2 text: zeros between", 3, x.text(0x4100003D00310000L));
        is("2 text: eight", 11, x.text(Due.row(" 0 1 2 3")));
        is("2 text: order kept", 1, x.read());
        is("2 text: four signs", 4, x.told(5));
        is("2 text: 127", RANGE, x.text(0x7F));
        is("2 text: 126", 12, x.text(0x7E));
        is("2 text: 128 highest", RANGE, x.text(0x8041414141414141L));
        is("2 text: 255", RANGE, x.text(-1L));
        is("2 text: 31", RANGE, x.text(0x411F));
        is("2 text: 9", RANGE, x.text(0x4109));
        is("2 text: 11", RANGE, x.text(0x0B00000000000000L));
        is("2 text: 1", RANGE, x.text(1));
        is("2 text: 10 and 32", 14, x.text(0x0A20));
        is("2 text: refused changes nothing", 14, x.told(0));
        x.cut(0);
        for (int i = 1; i < 150; i++) {
            x.text(Due.row("        "));
        }
        is("2 text: 1195", 1195, x.text(Due.row("AAA")));
        is("2 text: over by one", FULL, x.text(Due.row("AAAAAA")));
        is("2 text: full and range", RANGE, x.text(Due.row("AAAAA") << 8 | 0x7F));
        is("2 text: changed nothing", 1195, x.told(0));
        is("2 text: just 1200", 1200, x.text(Due.row("AAAAA")));
        is("2 text: nothing more", 1200, x.text(0));
        is("2 text: one more", FULL, x.text(0x41));
    }

    private static void cut() {
        GrammarTunes x = Due.with("A=1 0 1 ?");
        is("3 cut: below 0", RANGE, x.cut(-1));
        is("3 cut: beyond", RANGE, x.cut(10));
        is("3 cut: none", 0, x.cut(9));
        is("3 cut: two", 2, x.cut(7));
        is("3 cut: length", 7, x.told(0));
        is("3 cut: read", 1, x.read());
        is("3 cut: text stays after read", 7, x.told(0));
        is("3 cut: what went is gone", RANGE, x.cut(8));
        is("3 cut: all", 7, x.cut(0));
        is("3 cut: rules stay", 1, x.told(1));
        is("3 cut: empty", 0, x.cut(0));
        is("3 cut: far", RANGE, x.cut(Integer.MAX_VALUE));
        is("3 cut: far below", RANGE, x.cut(Integer.MIN_VALUE));
    }

    private static void readsRules() {
        DUE.reads("A=1 0", 1, 1, 1);
        DUE.reads("A=1A", 1, 1, 1);
        DUE.reads("A=1r", 1, 1, 1);
        DUE.reads(" \n A \n = \n 1 \n 0 \n | \n 999 \n r \n B = 2 3 \n ", 2, 3, 3);
        DUE.reads("A=1 012", 1, 1, 3);
        DUE.reads("A=10 12r3A|2r", 1, 2, 6);
        DUE.reads("A=1BB=1AA", 2, 2, 3);
        DUE.reads("A=1 0'1''2,3,,4':16 5,,:1r:10r:9", 1, 1, 8);
        DUE.reads("A=1 0:1r0:16A", 1, 1, 4);
        DUE.reads("A=1 0:1 2", 1, 1, 2);
        DUE.reads("A=1 B B B=1 0", 2, 2, 3);
        DUE.reads("Z=1 A\nA =1 0", 2, 2, 2);
    }

    private static void readsFaults() {
        DUE.faults("", 0);
        DUE.faults("  \n", 3);
        DUE.faults("a", 0);
        DUE.faults(" 1", 1);
        DUE.faults("=", 0);
        DUE.faults("|", 0);
        DUE.faults("A", 1);
        DUE.faults("A ", 2);
        DUE.faults("A B", 2);
        DUE.faults("AB=1 0", 1);
        DUE.faults("A=", 2);
        DUE.faults("A==", 2);
        DUE.faults("A=|", 2);
        DUE.faults("A=B", 2);
        DUE.faults("A=r", 2);
        DUE.faults("A=1", 3);
        DUE.faults("A=1 ", 4);
        DUE.faults("A=1|", 3);
        DUE.faults("A=1=", 3);
        DUE.faults("A=1:", 3);
        DUE.faults("A=1 7", 4);
        DUE.faults("A=1 9", 4);
        DUE.faults("A=1 ?", 4);
        DUE.faults("A=1 R0", 4);
        DUE.faults("A=1 0=", 5);
        DUE.faults("A=1 0|", 6);
        DUE.faults("A=1 0 | ", 8);
        DUE.faults("A=1 0||", 6);
        DUE.faults("A=1 0|A", 6);
        DUE.faults("A=1 0?", 5);
        DUE.faults("A=1 0 a", 6);
        DUE.faults("A=0 0", 2);
        DUE.faults("A=01 0", 2);
        DUE.faults("A=00", 2);
        DUE.faults("A=1000 0", 2);
        DUE.faults("A=1000", 2);
        DUE.faults("A=99999999999999999999 0", 2);
        DUE.faults("A=1 0|2 0|1234 0", 10);
        DUE.faults("A=1 0|0 0", 6);
        DUE.faults("A=1 '", 4);
        DUE.faults("A=1 ,", 4);
        DUE.faults("A=1 :", 4);
        DUE.faults("A=1 0'''", 7);
        DUE.faults("A=1 0,,,", 7);
        DUE.faults("A=1 0',", 6);
        DUE.faults("A=1 0,'", 6);
        DUE.faults("A=1 0'',", 7);
        DUE.faults("A=1 0 '", 6);
        DUE.faults("A=1 0 :4", 6);
        DUE.faults("A=1 0' ,", 7);
        DUE.faults("A=1 0:4'", 7);
        DUE.faults("A=1 0:4:", 7);
        DUE.faults("A=1 r'", 5);
        DUE.faults("A=1 r,", 5);
        DUE.faults("A=1 A'", 5);
        DUE.faults("A=1 A:4", 5);
        DUE.faults("A=1 0:", 6);
        DUE.faults("A=1 0: 4", 6);
        DUE.faults("A=1 0:r", 6);
        DUE.faults("A=1 0:0", 6);
        DUE.faults("A=1 0:04", 6);
        DUE.faults("A=1 0:17", 7);
        DUE.faults("A=1 0:25", 7);
        DUE.faults("A=1 0:100", 8);
        DUE.faults("A=1 0:160", 8);
        DUE.faults("A=1 r:20", 7);
        DUE.faults("A=1 B=2 0", 5);
        DUE.faults("A=1 B \n= 2 0", 7);
        DUE.faults("A=1 0|2 B=2 0", 9);
        DUE.faults("A=1 B", 4);
        DUE.faults("B=1 A", 4);
        DUE.faults("@=1 0", 0);
        DUE.faults("[=1 0", 0);
        DUE.faults("A=1 0 @", 6);
        DUE.faults("A=1 0 [=1 0", 6);
        DUE.faults("A=1 0 C B A B=1 D", 6);
        DUE.faults("A=1 C B=1 B?", 11);
        DUE.faults("A=1 0 A=1 0", 6);
        DUE.faults("A=1 0 B=1 0 A = 1 0", 12);
        DUE.faults("A=1 0 A=?", 6);
        DUE.faults("A=1 Z B=1 0 B=1 0", 12);
    }

    private static void readsLimits() {
        DUE.reads(Due.rules(16), 16, 16, 16);
        DUE.faults(Due.rules(17), 16 * 6);
        DUE.faults(Due.rules(16) + "Q", 16 * 6);
        DUE.faults(Due.rules(16) + "Q ?", 16 * 6 + 2);
        DUE.faults(Due.rules(16) + "Q=?", 16 * 6);
        String twelve = "A=1" + Due.times(12, " 0");
        DUE.reads(twelve, 1, 1, 12);
        DUE.reads(twelve + "B=1 0", 2, 2, 13);
        DUE.reads(twelve + " B \n = 1 0", 2, 2, 13);
        DUE.faults(twelve + " 0", twelve.length() + 1);
        DUE.faults(twelve + "r:77", twelve.length());
        DUE.faults(twelve + " A", twelve.length() + 1);
        DUE.faults(twelve + " A A=1 0", twelve.length() + 1);
        DUE.faults(twelve + "'?", twelve.length() + 1);
        DUE.reads(twelve + "|2" + Due.times(12, "r"), 1, 2, 24);
        DUE.faults(twelve + "|2" + Due.times(13, "r"), twelve.length() + 2 + 12);
        String many = "A=1 0" + Due.times(47, "|1 0");
        DUE.reads(many, 1, 48, 48);
        DUE.faults(many + "|1 0", many.length() + 1);
        DUE.faults(many + "| 1000", many.length() + 2);
        DUE.faults(many + "|", many.length() + 1);
        DUE.faults(many + "|A", many.length() + 1);
        DUE.faults(many + " B = 77 0", many.length() + 5);
        DUE.faults(many + " A = 77 0", many.length() + 1);
        String full = "A=1" + Due.times(12, "r") + Due.times(19, "|1" + Due.times(12, "r"));
        DUE.reads(full, 1, 20, 240);
        DUE.faults(full + "|1 0", full.length() + 3);
        DUE.faults(full + "|1 A", full.length() + 3);
        DUE.faults(full + "|1B=", full.length() + 2);
        DUE.faults(full + "|1 B \n = 1 0", full.length() + 3);
        DUE.faults(full + "|1 A=1 0", full.length() + 3);
        DUE.faults(full + " B=1 C=1 0", full.length() + 5);
        DUE.faults(full + " B=1 ", full.length() + 5);
        DUE.reads(full.substring(0, full.length() - 1) + " B=1 A", 2, 21, 240);
        DUE.faults(full.substring(0, full.length() - 1) + "|1 B = 1 0", full.length() + 4);
        DUE.faults(full.substring(0, full.length() - 1) + "|1 A B=1 0", full.length() + 8);
        DUE.faults(full + " B=1 ?", full.length() + 5);
        String longest = Due.times(1195, " ") + "A=1 0";
        DUE.reads(longest, 1, 1, 1);
        DUE.faults(Due.times(1196, "\n") + "A=1 ", 1200);
    }

    private static void rereads(GrammarTunes x, String text, int rules, int alternatives, int signs) {
        x.cut(0);
        Due.write(x, text);
        is("4 reread: " + text, rules, x.read());
        is("4 reread: " + text + " RULES", rules, x.told(1));
        is("4 reread: " + text + " ALTERNATIVES", alternatives, x.told(4));
        is("4 reread: " + text + " SIGNS", signs, x.told(5));
    }

    /** Nothing of a text that was read, refused or cut before is left. */
    private static void readsAnew() {
        GrammarTunes x = new GrammarTunes();
        rereads(x, "A=1 0|2 1 B=3 0 0 0", 2, 3, 5);
        rereads(x, "A=5 0", 1, 1, 1);
        rereads(x, "B=7 0|8 A A=9 B", 2, 3, 3);
        is("5 WEIGHTS anew", 9, x.rule(0, 1));
        is("5 WEIGHTS of B anew", 15, x.rule(1, 1));
        rereads(x, "C=1 C", 1, 1, 1);
        is("5 A is gone", NONE, x.rule(0, 0));
        is("5 B is gone", NONE, x.rule(1, 0));
        x.cut(0);
        Due.write(x, "D=1 E E=1 F 0 0 0|7 7");
        is("4 refused between", -30, x.read());
        rereads(x, "E=1 0", 1, 1, 1);
        is("5 D is not there", NONE, x.rule(3, 0));
        x.cut(0);
        Due.write(x, "A=1 A=1 0");
        x.cut(5);
        is("4 what was cut is not behind the LETTER", 1, x.read());
        x.cut(0);
        Due.write(x, "A=1 0:12");
        x.cut(7);
        is("4 what was cut is not in the length", 1, x.read());
        is("4 the length", NONE, x.make(1, 1));
    }

    private static void rule() {
        GrammarTunes x = Due.reading("C=5 0|7 r|988 C Z=999 0|999 1");
        is("5 rule(2, 0)", 3, x.rule(2, 0));
        is("5 rule(2, 1)", 1000, x.rule(2, 1));
        is("5 rule(25, 0)", 2, x.rule(25, 0));
        is("5 rule(25, 1)", 1998, x.rule(25, 1));
        is("5 rule(0, 0)", NONE, x.rule(0, 0));
        is("5 rule(0, 1)", NONE, x.rule(0, 1));
        is("5 rule(-1, 0)", RANGE, x.rule(-1, 0));
        is("5 rule(26, 0)", RANGE, x.rule(26, 0));
        is("5 rule(0, 2)", RANGE, x.rule(0, 2));
        is("5 rule(2, -1)", RANGE, x.rule(2, -1));
        x.cut(0);
        Due.write(x, "A=4 0");
        is("5 rule: not read yet", 3, x.rule(2, 0));
        x.read();
        is("5 rule: gone", NONE, x.rule(2, 0));
        is("5 rule: new", 4, x.rule(0, 1));
        is("5 rule: new NONE", NONE, x.rule(25, 1));
    }

    private static void want() {
        int[] least = {0, 0, 0, 0, 0, -1, 1};
        int[] greatest = {127, 127, 127, 127, 1, 6, 3000};
        int[] first = {0, 127, 127, 127, 1, -1, 500};
        GrammarTunes x = new GrammarTunes();
        for (int i = 0; i < 7; i++) {
            is("6 want below " + i, RANGE, x.want(i, least[i] - 1));
            is("6 want above " + i, RANGE, x.want(i, greatest[i] + 1));
            is("6 want least " + i, first[i], x.want(i, least[i]));
            is("6 want greatest " + i, least[i], x.want(i, greatest[i]));
            is("6 want again " + i, greatest[i], x.want(i, first[i]));
        }
        is("6 want(-1, 1)", RANGE, x.want(-1, 1));
        is("6 want(7, 1)", RANGE, x.want(7, 1));
        is("6 want far", RANGE, x.want(0, Integer.MIN_VALUE));
    }

    private static void makes() {
        GrammarTunes x = Due.reading("S=1 0' r:2 A 6,,:2 A=1 2:8");
        is("7 make(0)", RANGE, x.make(0, 1));
        is("7 make(17)", RANGE, x.make(17, 1));
        is("7 make(-1)", RANGE, x.make(-1, 1));
        is("7 make(2)", NONE, x.make(2, 1));
        is("7 make(1)", 4, x.make(1, 1));
        DUE.tune("7 make", x, 72, 4, 0, 0, NONE, 2, 4, NONE, 64, 8, 6, 2, 47, 2, 14, 6);
        is("7 make(0) refused", RANGE, x.make(0, 1));
        DUE.tune("7 refused keeps the TUNE", x, 72, 4, 0, 0, NONE, 2, 4, NONE, 64, 8, 6, 2, 47, 2, 14, 6);
        x.cut(0);
        Due.write(x, "A=1 4:16");
        is("7 other RULES", 1, x.read());
        is("7 TUNE stays", 4, x.told(2));
        is("7 range ahead of state", RANGE, new GrammarTunes().make(0, 0));
        is("7 make(16) too long", NONE, x.make(16, 1));
        is("7 no TUNE", 0, x.told(2));
        is("7 no item", NONE, x.item(0, 0));
        x = Due.reading("S=1 AAAAAAAA A=1 BBBBBBBB B=1 r:1 0:1 r:1 1:1");
        is("7 as many as there can be", 256, x.make(16, 3));
        is("7 the last of them", 255, x.item(255, 2));
        is("8 for as many as there can be", 73, x.tries());
        is("7 one bar too few", NONE, x.make(15, 3));
        x = Due.reading("S=1 4:16 B=1 0");
        is("7 begins with the first RULE", 1, x.make(1, 9));
        is("7 first RULE's NOTE", 67, x.item(0, 0));
        x = Due.reading("S=1 0 1 2 3 4 5 6 0:4");
        is("7 degrees", 8, x.make(2, 0));
        int[] pitches = {60, 62, 64, 65, 67, 69, 71, 60};
        for (int i = 0; i < 8; i++) {
            is("7 pitch " + i, pitches[i], x.item(i, 0));
            is("7 degree " + i, i % 7, x.item(i, 3));
            is("7 usual length " + i, 4, x.item(i, 1));
            is("7 begin " + i, 4 * i, x.item(i, 2));
        }
        choosesByWeight();
    }

    /** Which ALTERNATIVE is chosen first follows from BELOW the sum of the WEIGHTS. */
    private static void choosesByWeight() {
        GrammarTunes x = Due.reading("S=2 0:16|5 1:16|1 2:16");
        for (long seed = 0; seed < 40; seed++) {
            int number = x.below(seed, 8, 0);
            int degree = number < 2 ? 0 : number < 7 ? 1 : 2;
            is("7 make by weight", 1, x.make(1, seed));
            is("7 by weight, seed " + seed, degree, x.item(0, 3));
            is("8 one try", 1, x.tries());
        }
        x = Due.reading("S=2 0:16|5 1:15|1 2:16");
        for (long seed = 0; seed < 40; seed++) {
            int number = x.below(seed, 8, 0);
            boolean failed = number >= 2 && number < 7;
            // The second draw is among the two that are left, from the STATE that went on.
            int again = x.below(seed + Seeds.STEP, 3, 0);
            int degree = failed ? again < 2 ? 0 : 2 : number < 2 ? 0 : 2;
            is("7 make again", 1, x.make(1, seed));
            is("7 chosen anew, seed " + seed, degree, x.item(0, 3));
            is("8 tries, seed " + seed, failed ? 2 : 1, x.tries());
        }
    }

    private static void madeWith(String text, int which, int v, int bars, int due) {
        GrammarTunes x = Due.reading(text);
        x.want(which, v);
        is("7 make " + text + " with " + which + " = " + v, due, x.make(bars, 5));
    }

    private static void makeKeepsWhatIsWanted() {
        String text = "S=1 0:8 2:8";
        madeWith(text, 0, 60, 1, 2);
        madeWith(text, 0, 61, 1, NONE);
        madeWith(text, 1, 64, 1, 2);
        madeWith(text, 1, 63, 1, NONE);
        madeWith(text, 2, 4, 1, 2);
        madeWith(text, 2, 3, 1, NONE);
        madeWith("S=1 2:8 0:8", 2, 3, 1, NONE);
        madeWith("S=1 0 r 2:8", 2, 4, 1, 3);
        madeWith("S=1 0 r 2:8", 2, 3, 1, NONE);
        madeWith("S=1 r 0'':4 0'' 0''", 2, 0, 1, 4);
        madeWith(text, 3, 1, 1, 2);
        madeWith(text, 3, 0, 1, NONE);
        madeWith("S=1 r:16", 3, 0, 1, 1);
        madeWith("S=1 0 r 0 0", 3, 3, 1, 4);
        madeWith("S=1 0 r 0 0", 3, 2, 1, NONE);
        madeWith("S=1 0 0 1 0", 3, 2, 1, 4);
        madeWith("S=1 0 0 0' 0", 3, 2, 1, 4);
        madeWith("S=1 0:15 r:2 0:15", 4, 1, 2, 3);
        madeWith("S=1 0:15 r:2 0:15", 4, 0, 2, NONE);
        madeWith("S=1 0:15 1:2 0:15", 4, 0, 2, NONE);
        madeWith("S=1 0:15 r:1 0:16", 4, 0, 2, 3);
        madeWith(text, 5, 2, 1, 2);
        madeWith(text, 5, 0, 1, NONE);
        madeWith("S=1 0:8 2, r:4", 5, 2, 1, 3);
        madeWith("S=1 r:16", 5, 0, 1, NONE);
        madeWith("S=1 r:16", 5, -1, 1, 1);
        madeWith("S=1 2:16", 5, 2, 1, 1);
        madeWith("S=1 6,,:16", 0, 47, 1, 1);
        madeWith("S=1 6,,:16", 0, 48, 1, NONE);
        madeWith("S=1 6'':16", 1, 95, 1, 1);
        madeWith("S=1 6'':16", 1, 94, 1, NONE);
    }

    private static void makeFailsAndEnds() {
        GrammarTunes x = Due.reading("A=1 A 0");
        is("7 more than 200", NONE, x.make(1, 0));
        is("8 tries to 200", 200, x.tries());
        x = Due.reading("A=1 A" + Due.times(11, "0"));
        is("7 eleven more each", NONE, x.make(1, 0));
        is("8 tries to 200 by eleven", 19, x.tries());
        x = Due.reading("A=1 A");
        is("7 vain", VAIN, x.make(1, 0));
        is("8 vain: MOST", 500, x.tries());
        is("7 vain: no TUNE", 0, x.told(2));
        x.want(6, 3000);
        is("7 vain at 3000", VAIN, x.make(1, 0));
        is("8 vain: 3000", 3000, x.tries());
        x = Due.reading("A=1 A|1 A|1 A");
        x.want(6, 3000);
        is("7 vain at 3000, places kept", VAIN, x.make(16, -7));
        x = Due.reading("S=1 0|1 1");
        x.want(6, 2);
        is("7 all tried by MOST", NONE, x.make(1, 0));
        is("8 all tried by MOST", 2, x.tries());
        x.want(6, 1);
        is("7 one more than MOST", VAIN, x.make(1, 0));
        is("8 one more than MOST", 1, x.tries());
        x = Due.reading("S=1 A A A=1 0|1 0:16");
        is("7 goes back over places", NONE, x.make(1, 4));
        // S; the first A twice; behind its short NOTE the second A twice, behind the long one too.
        is("8 goes back over places", 7, x.tries());
    }

    private static void tries() {
        GrammarTunes x = new GrammarTunes();
        x.make(1, 1);
        is("8 refused by STATE", 0, x.tries());
        Due.write(x, "S=1 A A A=1 0:8");
        x.read();
        is("8 read does not count", 0, x.tries());
        x.make(1, 1);
        is("8 three", 3, x.tries());
        x.make(17, 1);
        is("8 refused", 3, x.tries());
        x.make(2, 1);
        is("8 counted anew", 3, x.tries());
    }

    private static void item() {
        GrammarTunes x = Due.reading("S=1 r:7 3':9");
        x.make(1, 0);
        DUE.tune("9", x, NONE, 7, 0, NONE, 77, 9, 7, 3);
        is("9 item(-1, 0)", NONE, x.item(-1, 0));
        is("9 item(2, 0)", NONE, x.item(2, 0));
        is("9 item(0, -1)", RANGE, x.item(0, -1));
        is("9 item(0, 4)", RANGE, x.item(0, 4));
        is("9 item(9, 4)", RANGE, x.item(9, 4));
        is("9 item far", NONE, x.item(Integer.MAX_VALUE, 1));
    }

    private static void below() {
        GrammarTunes x = new GrammarTunes();
        long first = 0xE220A8397B1DCDAFL >>> 1;
        is("10 first draw", first % 1000003, x.below(0, 1000003, 0));
        is("10 greatest n", first % Integer.MAX_VALUE, x.below(0, Integer.MAX_VALUE, 0));
        is("10 n = 0", RANGE, x.below(0, 0, 0));
        is("10 n = -1", RANGE, x.below(0, -1, 0));
        is("10 n least", RANGE, x.below(0, Integer.MIN_VALUE, 0));
        is("10 k = -1", RANGE, x.below(0, 1, -1));
        is("10 k = 1001", RANGE, x.below(0, 1, 1001));
        is("10 k = 1000", x.below(1000 * Seeds.STEP, 64, 0), x.below(0, 64, 1000));
        is("10 n = 1", 0, x.below(99, 1, 7));
        long greatest = Seeds.ofBits(-1L);
        long after = x.below(greatest + Seeds.STEP, 3, 0);
        is("10 2^63 - 1 refused by 3", after, x.below(greatest, 3, 0));
        is("10 2^63 - 2 refused by 3", x.below(Seeds.ofBits(-3L) + Seeds.STEP, 3, 0), x.below(Seeds.ofBits(-3L), 3, 0));
        is("10 2^63 - 3 taken by 3", 2, x.below(Seeds.ofBits(-5L), 3, 0));
        is("10 2^63 - 1 taken by 4", 3, x.below(greatest, 4, 0));
        is("10 2^63 - 1 taken by 1", 0, x.below(greatest, 1, 0));
        is("10 2^63 - 1 taken by 2^30", (1 << 30) - 1, x.below(greatest, 1 << 30, 0));
        is("10 refused, then the next", x.below(greatest + 2 * Seeds.STEP, 3, 0), x.below(greatest, 3, 1));
        is("10 2^63 - 1 refused by the greatest n", x.below(greatest + Seeds.STEP, Integer.MAX_VALUE, 0),
                x.below(greatest, Integer.MAX_VALUE, 0));
    }

    private static void corpusAndForget() {
        GrammarTunes x = new GrammarTunes();
        for (int i = 1; i <= 300; i++) {
            is("11 corpus", i, x.corpus(i == 7 ? Integer.MIN_VALUE : i));
        }
        is("11 corpus full", FULL, x.corpus(1));
        is("11 corpus still", 300, x.told(3));
        is("11 walk to the last", 1, x.walk(1, 299, 0, 0));
        is("11 the last number", 300, x.step(0));
        is("11 walk from 6", 3, x.walk(3, 6, 0, 0));
        is("11 any number", Integer.MIN_VALUE, x.step(0));
        is("12 forget", 300, x.forget());
        is("12 none", 0, x.told(3));
        is("12 again", 0, x.forget());
        is("12 the WALK stays", 3, x.steps());
        is("12 its numbers stay", 8, x.step(1));
        is("12 no walk", STATE, x.walk(1, 0, 1, 0));
        is("12 anew", 1, x.corpus(-5));
        is("12 walk anew", 3, x.walk(1, 0, 2, 0));
        is("12 step anew", -5, x.step(2));
    }

    private static void walk() {
        GrammarTunes x = Due.corpusOf(1, 2, 3, 4, 5);
        is("13 walk to the end", 7, x.walk(1, 2, 6, 0));
        DUE.steps("13 none: from where it began", x, 3, 4, 5, 3, 4, 5, 3);
        is("13 walk of two", 6, x.walk(2, 3, 4, 0));
        DUE.steps("13 none of two", x, 4, 5, 4, 4, 4, 4);
        is("13 k = 0", RANGE, x.walk(0, 0, 1, 0));
        is("13 k = 4", RANGE, x.walk(4, 0, 1, 0));
        is("13 n = -1", RANGE, x.walk(1, 0, -1, 0));
        is("13 n = 201", RANGE, x.walk(1, 0, 201, 0));
        is("13 range ahead of state", RANGE, x.walk(1, 77, 201, 0));
        is("13 place -1", STATE, x.walk(1, -1, 1, 0));
        is("13 place 5", STATE, x.walk(1, 5, 1, 0));
        is("13 place 4 of two", STATE, x.walk(2, 4, 1, 0));
        is("13 place far", STATE, x.walk(3, Integer.MAX_VALUE, 1, 0));
        is("13 place far below", STATE, x.walk(3, Integer.MIN_VALUE, 1, 0));
        DUE.steps("13 refused keeps the WALK", x, 4, 5, 4, 4, 4, 4);
        is("13 longest", 203, x.walk(3, 2, 200, 0));
        is("13 longest, last", 3, x.step(202));
        is("13 n = 0", 3, x.walk(3, 1, 0, 0));
        DUE.steps("13 n = 0", x, 2, 3, 4);
        x = Due.corpusOf(7, 1, 7, 2, 7, 3, 7, 7);
        for (long seed = -20; seed < 20; seed++) {
            int[] behind = {1, 2, 3, 7};
            is("13 one of four", 2, x.walk(1, 0, 1, seed));
            is("13 one of four, seed " + seed, behind[x.below(seed, 4, 0)], x.step(1));
        }
        x = Due.corpusOf(1, 1, 1, 2, 1, 1, 3);
        for (long seed = 0; seed < 20; seed++) {
            int[] behind = {1, 2, 3};
            x.walk(2, 0, 1, seed);
            is("13 overlapping, seed " + seed, behind[x.below(seed, 3, 0)], x.step(2));
            x.walk(3, 0, 2, seed);
            DUE.steps("13 no draw without a choice", x, 1, 1, 1, 2, 1);
        }
    }

    private static void stepAndSteps() {
        GrammarTunes x = Due.corpusOf(9, 8);
        is("15 without", 0, x.steps());
        x.walk(1, 0, 3, 1);
        is("15 steps", 4, x.steps());
        is("14 step(0)", 9, x.step(0));
        is("14 step(1)", 8, x.step(1));
        is("14 step(-1)", 0, x.step(-1));
        is("14 step(4)", 0, x.step(4));
        is("14 step far", 0, x.step(Integer.MAX_VALUE));
        x.walk(2, 0, 0, 1);
        is("15 shorter", 2, x.steps());
        is("14 beyond the shorter", 0, x.step(2));
    }

    private static void stroke() {
        GrammarTunes x = new GrammarTunes();
        String tresillo = "10010010";
        for (int i = 0; i < 24; i++) {
            is("16 stroke(3, 8, 0, " + i + ")", tresillo.charAt(i % 8) - '0', x.stroke(3, 8, 0, i));
            is("16 stroke(3, 8, 5, " + i + ")", tresillo.charAt((i + 5) % 8) - '0', x.stroke(3, 8, 5, i));
            is("16 none", 0, x.stroke(0, 8, 3, i));
            is("16 all", 1, x.stroke(8, 8, 7, i));
        }
        is("16 farthest", 1, x.stroke(64, 64, 63, 1000000));
        is("16 farthest of 63", (1000000L + 62) * 31 % 63 < 31 ? 1 : 0, x.stroke(31, 63, 62, 1000000));
        is("16 i too far", RANGE, x.stroke(1, 1, 0, 1000001));
        is("16 i below", RANGE, x.stroke(1, 1, 0, -1));
        is("16 steps 0", RANGE, x.stroke(0, 0, 0, 0));
        is("16 steps 65", RANGE, x.stroke(1, 65, 0, 0));
        is("16 strokes 9 of 8", RANGE, x.stroke(9, 8, 0, 0));
        is("16 strokes -1", RANGE, x.stroke(-1, 8, 0, 0));
        is("16 turn 8 of 8", RANGE, x.stroke(3, 8, 8, 0));
        is("16 turn -1", RANGE, x.stroke(3, 8, -1, 0));
        is("16 one of one", 1, x.stroke(1, 1, 0, 5));
    }

    private static void turned() {
        GrammarTunes x = new GrammarTunes();
        is("17 by one", 1, x.turned(0b1001, 0b1100, 4));
        is("17 least", 1, x.turned(0b0101, 0b1010, 4));
        is("17 same", 0, x.turned(0, 0, 64));
        is("17 none", NONE, x.turned(0b0101, 0b0011, 4));
        is("17 bits beyond", 0, x.turned(0xF1, 0x01, 4));
        is("17 bits beyond b", 3, x.turned(0x01, -14L, 4));
        is("17 sixty-four", 1, x.turned(1L, Long.MIN_VALUE, 64));
        is("17 sixty-four other way", 63, x.turned(Long.MIN_VALUE, 1L, 64));
        is("17 sixty-three", 62, x.turned(1L, 2L | Long.MIN_VALUE, 63));
        is("17 one step", 0, x.turned(3L, 1L, 1));
        is("17 one step none", NONE, x.turned(2L, 1L, 1));
        is("17 steps 0", RANGE, x.turned(1, 1, 0));
        is("17 steps 65", RANGE, x.turned(1, 1, 65));
        is("17 steps -1", RANGE, x.turned(1, 1, -1));
    }

    private static void placeAndForm() {
        GrammarTunes x = new GrammarTunes();
        is("18 place(0, 11)", 1, x.place(0, 11));
        is("18 place(1, 1)", 1, x.place(1, 1));
        is("18 place(5, 0)", 1, x.place(5, 0));
        is("18 place(11, 8)", 1, x.place(11, 8));
        is("18 place(11, 5)", 1, x.place(11, 5));
        int[] row = {11, 1, 2, 3, 4, 0, 6, 7, 8, 9, 10, 5};
        int[][] wrong = {{-1, 0}, {12, 0}, {0, -1}, {0, 12}};
        for (int[] pair : wrong) {
            is("18 place(" + pair[0] + ", " + pair[1] + ")", RANGE, x.place(pair[0], pair[1]));
        }
        for (int by : new int[] {0, 1, 6, 11}) {
            for (int i = 0; i < 12; i++) {
                int mirror = 11 - (row[i] - 11);
                int mirrorBack = 11 - (row[11 - i] - 11);
                is("19 form(0)", (row[i] + by) % 12, x.form(0, by, i));
                is("19 form(1)", (mirror + by) % 12, x.form(1, by, i));
                is("19 form(2)", (row[11 - i] + by) % 12, x.form(2, by, i));
                is("19 form(3)", (mirrorBack + by) % 12, x.form(3, by, i));
            }
        }
        is("19 form(-1)", RANGE, x.form(-1, 0, 0));
        is("19 form(4)", RANGE, x.form(4, 0, 0));
        is("19 by -1", RANGE, x.form(0, -1, 0));
        is("19 by 12", RANGE, x.form(0, 12, 0));
        is("19 i -1", RANGE, x.form(0, 0, -1));
        is("19 i 12", RANGE, x.form(0, 0, 12));
        x = new GrammarTunes();
        is("19 below 0 modulo 12", 1, x.form(1, 0, 11));
    }

    private static void doubled() {
        GrammarTunes x = new GrammarTunes();
        is("20 the scale", 24, x.doubled());
        x.place(0, 1);
        is("20 not like itself", 0, x.doubled());
        x.place(0, 0);
        is("20 the scale again", 24, x.doubled());
        // The second half is the first one backwards, six higher: backwards is as it is, moved by six.
        int[] row = {0, 1, 2, 3, 4, 5, 11, 10, 9, 8, 7, 6};
        for (int i = 0; i < 12; i++) {
            x.place(i, row[i]);
        }
        is("20 a row that is its own way back", 24, x.doubled());
    }

    private static void told() {
        GrammarTunes x = Due.reading("S=1 0:8 A|2 r A=1 0:8");
        Due.write(x, "??");
        x.make(1, 3);
        x.corpus(4);
        x.corpus(4);
        x.corpus(4);
        x.want(6, 500);
        int items = x.told(2);
        is("21 characters", 23, x.told(0));
        is("21 RULES", 2, x.told(1));
        is("21 items", 2, items);
        is("21 numbers", 3, x.told(3));
        is("21 ALTERNATIVES", 3, x.told(4));
        is("21 SIGNS", 4, x.told(5));
        is("21 told(-1)", RANGE, x.told(-1));
        is("21 told(6)", RANGE, x.told(6));
    }
}
