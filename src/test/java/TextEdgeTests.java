/** The edges of 2 THE TEXT and of promises 2 to 5, sentence by sentence. */
public final class TextEdgeTests {
    private static final int NONE = GrammarTunes.NONE, RANGE = GrammarTunes.RANGE, FULL = GrammarTunes.FULL;
    private static final Due DUE = new Due("edges of the text");
    private static final String TWELVE = "A=1" + Due.times(12, "r");
    private static final String SIGNS_240 = TWELVE + Due.times(19, "|1" + Due.times(12, "r"));
    private static final String SIGNS_239 = SIGNS_240.substring(0, SIGNS_240.length() - 1);
    private static final String ALTERNATIVES_48 = "A=1 0" + Due.times(47, "|1 0");

    public static void main(String[] args) {
        words();
        faultsByPlace();
        DUE.sentence("60 and 0 2 4 5 7 9 11 by its degree, and 12 for each octave", TextEdgeTests::pitches);
        texts();
        rulesThen();
        DUE.end();
    }

    private static void words() {
        DUE.sentence("THE TEXT, 1200 characters at most", TextEdgeTests::longest);
        DUE.sentence("Blanks and line ends (32, 10) stand as you like between WORDS", TextEdgeTests::blanks);
        DUE.sentence("It says RULES, one at least", TextEdgeTests::noRule);
        DUE.sentence("16 at most", TextEdgeTests::sixteenRules);
        DUE.sentence("a LETTER (A .. Z", TextEdgeTests::letters);
        DUE.sentence("each once ahead of a =", TextEdgeTests::onceAhead);
        DUE.sentence("ALTERNATIVES with | between", TextEdgeTests::between);
        DUE.sentence("its WEIGHT (a number 1 .. 999 without needless 0s)", TextEdgeTests::weights);
        DUE.sentence("SIGNS, 1 to 12", TextEdgeTests::oneToTwelve);
        DUE.sentence("a degree 0 .. 6", TextEdgeTests::degrees);
        DUE.sentence("then up to two ' or up to two ,", TextEdgeTests::octaves);
        DUE.sentence("then perhaps : and a length 1 .. 16 without needless 0s", TextEdgeTests::lengths);
        DUE.sentence("(else 4)", TextEdgeTests::usualLength);
        DUE.sentence("or a REST: r, then perhaps : and a length", TextEdgeTests::rests);
        DUE.sentence("In a NOTE, a REST, a number nothing stands between", TextEdgeTests::nothingBetween);
        DUE.sentence("need nothing behind them but what can not belong to them", TextEdgeTests::nothingBehind);
        DUE.sentence("a number directly behind a SIGN with : belongs to its length", TextEdgeTests::belongsToLength);
        DUE.sentence("= behind a LETTER makes it the next RULE's", TextEdgeTests::nextRules);
        DUE.sentence("There are 48 ALTERNATIVES at most", TextEdgeTests::most48);
        DUE.sentence("There are 48 ALTERNATIVES at most, 240 SIGNS", TextEdgeTests::most240);
    }

    private static void faultsByPlace() {
        DUE.sentence("the place of the first character with which no text as told goes on", TextEdgeTests::noTextGoesOn);
        DUE.sentence("(the text's length, if it ends too early)", TextEdgeTests::endsTooEarly);
        DUE.sentence("of a second RULE of a LETTER, a 17th RULE: of its LETTER", TextEdgeTests::secondRule);
        DUE.sentence("a 17th RULE: of its LETTER", TextEdgeTests::rule17);
        DUE.sentence("of a 49th ALTERNATIVE, or one with weight 0 or above 999: of the first digit of its WEIGHT",
                TextEdgeTests::alternative49);
        DUE.sentence("or one with weight 0 or above 999: of the first digit of its WEIGHT", TextEdgeTests::weightOutside);
        DUE.sentence("of a 13th, or a 241st SIGN: of its first character", TextEdgeTests::sign13);
        DUE.sentence("a 241st SIGN: of its first character", TextEdgeTests::sign241);
        DUE.sentence("then, if there is none, of the first LETTER in SIGNS that has no RULE", TextEdgeTests::withoutRule);
    }

    private static void texts() {
        DUE.sentence("Up to eight characters come behind the text", TextEdgeTests::upToEight);
        DUE.sentence("the bytes of a long, the highest first, those that are 0 left out", TextEdgeTests::highestFirst);
        DUE.sentence("RANGE: a byte above 126, or below 32 but 0 and 10", TextEdgeTests::everyByte);
        DUE.sentence("FULL", TextEdgeTests::full);
        DUE.sentence("The text has its first n characters alone: how many went. RANGE.", TextEdgeTests::cut);
        DUE.sentence("The text is read (and stays)", TextEdgeTests::stays);
    }

    private static void rulesThen() {
        DUE.sentence("these are the RULES then", TextEdgeTests::theseThen);
        DUE.sentence("FAULT: they are as before", TextEdgeTests::asBefore);
        DUE.sentence("how many ALTERNATIVES a LETTER (0 .. 25) has (what = 0), the sum of their WEIGHTS (1)",
                TextEdgeTests::ofALetter);
        DUE.sentence("NONE: it has no RULE. RANGE.", TextEdgeTests::hasNoRule);
    }

    private static void is(String call, long due, long got) {
        DUE.is(call, due, got);
    }

    private static void reads(String text, int rules, int alternatives, int signs) {
        DUE.reads(text, rules, alternatives, signs);
    }

    private static void faults(String text, int place) {
        DUE.faults(text, place);
    }

    /** What item() tells of a SIGN that stands first in a bar, with RESTS of 1 behind it till the bar is full. */
    private static int told(String sign, int what) {
        GrammarTunes x = Due.reading("S=1 " + sign + " F|1 " + sign + " F=1 r:1 F|1 r:1");
        x.make(1, 1L);
        return x.item(0, what);
    }

    // ---- words

    private static void longest() {
        reads(Due.times(1195, " ") + "A=1 0", 1, 1, 1);
        reads("A=1 0" + Due.times(1195, "\n"), 1, 1, 1);
        faults(Due.times(1196, "\n") + "A=1 ", 1200);
        faults(Due.times(1195, " ") + "A=1 ?", 1199);
        GrammarTunes x = Due.with(Due.times(1200, "A"));
        is("1200", 1200, x.told(0));
        is("1201", FULL, x.text('A'));
    }

    private static void blanks() {
        reads("A=1 0|2rB=3A", 2, 3, 3);
        String[] words = {"A", "=", "1", "0", "|", "2", "r", "B", "=", "3", "A"};
        for (String blank : new String[] {" ", "\n", "  ", "\n\n", " \n \n", Due.times(40, " \n")}) {
            reads(String.join(blank, words), 2, 3, 3);
            reads(blank + String.join(blank, words) + blank, 2, 3, 3);
        }
        for (char other : new char[] {'!', '.', ';', '_', '~'}) {
            faults("A" + other + "=1 0", 1);
            faults("A=" + other + "1 0", 2);
            faults("A=1 0" + other, 5);
        }
    }

    private static void noRule() {
        faults("", 0);
        faults(" ", 1);
        faults("\n", 1);
        faults(Due.times(1200, " "), 1200);
        reads("A=1 0", 1, 1, 1);
    }

    private static void sixteenRules() {
        reads(Due.rules(15), 15, 15, 15);
        reads(Due.rules(16), 16, 16, 16);
        reads(Due.rules(16) + "P", 16, 16, 17);
        faults(Due.rules(17), 96);
    }

    private static void letters() {
        reads("A=1 Z Z=1 A", 2, 2, 2);
        reads("Z=1 A A=1 Z", 2, 2, 2);
        for (char c : new char[] {'@', '[', 'a', 'z', '`', '{'}) {
            faults(c + "=1 0", 0);
            faults("A=1 " + c, 4);
            faults("A=1 0 " + c + "=1 0", 6);
        }
    }

    private static void onceAhead() {
        faults("A=1 0 A=1 0", 6);
        faults("A=1 0 B=1 0 A=1 0", 12);
        reads("A=1 A A|1 A B=1 A B", 2, 3, 5);
    }

    private static void between() {
        reads("A=1 0", 1, 1, 1);
        reads("A=1 0|1 0", 1, 2, 2);
        faults("A=|1 0", 2);
        faults("|A=1 0", 0);
        faults("A|=1 0", 1);
        faults("A=1 0||1 0", 6);
        faults("A=1 0|", 6);
        faults("A=1 0|B=1 0", 6);
        faults("A=1|1 0", 3);
        // Without | the number is no WEIGHT: 1 is a NOTE, 9 is nothing.
        reads("A=1 0 1 0", 1, 1, 3);
        faults("A=1 0 9 0", 6);
    }

    private static void weight(String number, int due) {
        GrammarTunes x = Due.reading("A=" + number + " 0");
        is("the WEIGHT " + number, due, x.rule(0, 1));
    }

    private static void weights() {
        weight("1", 1);
        weight("9", 9);
        weight("10", 10);
        weight("99", 99);
        weight("100", 100);
        weight("998", 998);
        weight("999", 999);
        for (String wrong : new String[] {"0", "00", "01", "001", "0999", "1000", "1001", "9999", "4294967297"}) {
            faults("A=" + wrong + " 0", 2);
        }
        for (char c : new char[] {'-', '+', '/', ':'}) {
            faults("A=" + c + "1 0", 2);
            faults("A=1" + c + "1 0", 3);
        }
    }

    private static void oneToTwelve() {
        faults("A=1", 3);
        faults("A=1|1 0", 3);
        faults("A=1 |1 0", 4);
        reads("A=1r", 1, 1, 1);
        reads("A=1" + Due.times(11, " 0"), 1, 1, 11);
        reads("A=1" + Due.times(12, " 0"), 1, 1, 12);
        faults("A=1" + Due.times(13, " 0"), 28);
        reads("A=1" + Due.times(12, "A"), 1, 1, 12);
        reads("A=1" + Due.times(12, " 6'':16"), 1, 1, 12);
        // The SIGNS of each ALTERNATIVE are counted anew.
        reads(TWELVE + "|1" + Due.times(12, "r") + "B=1" + Due.times(12, "r"), 2, 3, 36);
    }

    private static void degrees() {
        for (int degree = 0; degree <= 6; degree++) {
            is("degree " + degree, degree, told("" + degree, 3));
        }
        for (char c : new char[] {'7', '8', '9', '/', ':'}) {
            faults("A=1 " + c, 4);
            faults("A=1 6" + Due.times(2, "'") + c + "?", c == ':' ? 8 : 7);
        }
    }

    private static void octaves() {
        int[] due = {72, 84, 48, 36};
        String[] marks = {"'", "''", ",", ",,"};
        for (int i = 0; i < marks.length; i++) {
            is("PITCH of 0" + marks[i], due[i], told("0" + marks[i], 0));
            is("length of 0" + marks[i] + ":7", 7, told("0" + marks[i] + ":7", 1));
        }
        faults("A=1 0'''", 7);
        faults("A=1 0,,,", 7);
        faults("A=1 0',", 6);
        faults("A=1 0,'", 6);
        faults("A=1 0'',", 7);
        faults("A=1 0,,'", 7);
    }

    private static void lengths() {
        for (int length = 1; length <= 16; length++) {
            is("length of 0:" + length, length, told("0:" + length, 1));
        }
        faults("A=1 0:0", 6);
        faults("A=1 0:00", 6);
        faults("A=1 0:01", 6);
        faults("A=1 0:016", 6);
        faults("A=1 0:17", 7);
        faults("A=1 0:19", 7);
        faults("A=1 0:20", 7);
        faults("A=1 0:99", 7);
        faults("A=1 0:160", 8);
        for (char c : new char[] {'-', '/', ':'}) {
            faults("A=1 0:" + c + "1", 6);
            faults("A=1 0:1" + c, 7);
        }
        faults("A=1 0:", 6);
    }

    private static void usualLength() {
        is("length of 0", 4, told("0", 1));
        is("length of 6''", 4, told("6''", 1));
        is("length of 3,", 4, told("3,", 1));
        is("length of r", 4, told("r", 1));
    }

    private static void rests() {
        is("r has no PITCH", NONE, told("r", 0));
        is("r has no degree", NONE, told("r", 3));
        for (int length = 1; length <= 16; length++) {
            is("length of r:" + length, length, told("r:" + length, 1));
        }
        faults("A=1 r:", 6);
        faults("A=1 r:0", 6);
        faults("A=1 r:17", 7);
        faults("A=1 r'", 5);
        faults("A=1 r,", 5);
        faults("A=1 R", 4);
    }

    private static void nothingBetween() {
        faults("A=1 0 '", 6);
        faults("A=1 0' '", 7);
        faults("A=1 0, ,", 7);
        faults("A=1 0 :4", 6);
        faults("A=1 0' :4", 7);
        faults("A=1 0: 4", 6);
        faults("A=1 r :4", 6);
        faults("A=1 r:\n4", 6);
        // Numbers with a blank within are two: a WEIGHT and a NOTE, a length and a NOTE.
        reads("A=1 2", 1, 1, 1);
        reads("A=12 2", 1, 1, 1);
        reads("A=1 0:1 6", 1, 1, 2);
        reads("A=1 0:1\n6", 1, 1, 2);
        reads("A=1 0:16", 1, 1, 1);
    }

    private static void nothingBehind() {
        reads("A=1r", 1, 1, 1);
        reads("A=999A", 1, 1, 1);
        reads("A=1 0123456", 1, 1, 7);
        reads("A=1 0'1''2,3,,4", 1, 1, 5);
        reads("A=1rrAAr0A", 1, 1, 7);
        reads("A=1r0:16r:16A0|1r|1A", 1, 3, 7);
        reads("A=1 0B=1 0':2C=1r:3D=1AA", 4, 4, 5);
    }

    private static void belongsToLength() {
        is("length of 0:12", 12, told("0:12", 1));
        is("length of r:10", 10, told("r:10", 1));
        reads("A=1 0:12", 1, 1, 1);
        reads("A=1 0:1 2", 1, 1, 2);
        reads("A=1 r:16 0", 1, 1, 2);
        faults("A=1 0:17", 7);
        faults("A=1 0:21", 7);
        faults("A=1 r:160", 8);
        faults("A=1 0'':40", 9);
    }

    private static void nextRules() {
        reads("A=1 0B=1 0", 2, 2, 2);
        reads("A=1 0 B=1 0", 2, 2, 2);
        reads("A=1 0 B \n\n = 1 0", 2, 2, 2);
        reads("A=1 B B B=1 0", 2, 2, 3);
        reads(TWELVE + "B=1 0", 2, 2, 13);
        reads(TWELVE + " B\n=1 0", 2, 2, 13);
        // Directly behind a WEIGHT a SIGN must stand, so there = is what no text goes on with.
        faults("A=1 B=1 0", 5);
        faults("A=1B=1 0", 4);
        faults("A=1 0|1 B =1 0", 10);
    }

    private static void most48() {
        reads(ALTERNATIVES_48, 1, 48, 48);
        faults(ALTERNATIVES_48 + "|1 0", ALTERNATIVES_48.length() + 1);
        String spread = "";
        for (char letter = 'A'; letter <= 'P'; letter++) {
            spread += letter + "=1 0|1 0|1 0 ";
        }
        reads(spread, 16, 48, 48);
        faults(spread.trim() + "|1 0", spread.length());
    }

    private static void most240() {
        reads(SIGNS_240, 1, 20, 240);
        reads(SIGNS_239 + "B=1 0", 2, 21, 240);
        faults(SIGNS_240 + "|1 0", SIGNS_240.length() + 3);
    }

    // ---- faults

    private static void noTextGoesOn() {
        faults("?", 0);
        faults(" \n?", 2);
        faults("1=1 0", 0);
        faults("A?", 1);
        faults("AB=1 0", 1);
        faults("A==1 0", 2);
        faults("A=A", 2);
        faults("A=r", 2);
        faults("A=1=", 3);
        faults("A=1'", 3);
        faults("A=1:4 0", 3);
        faults("A=1 7", 4);
        faults("A=1 0 =", 6);
        faults("A=1 A'", 5);
        faults("A=1 A:4", 5);
        faults("A=1 0:4:", 7);
        faults("A=1 0:4'", 7);
        faults("A=1 0 |?", 7);
        faults("A=1 0 B=1 0 C=1 0 ?", 18);
        // It comes first, though a LETTER without a RULE stands ahead of it, or another fault behind.
        faults("A=1 B ?", 6);
        faults("A=1 ? A=1 0", 4);
    }

    private static void endsTooEarly() {
        faults("", 0);
        faults("A", 1);
        faults("A \n", 3);
        faults("A=", 2);
        faults("A= ", 3);
        faults("A=1", 3);
        faults("A=12 ", 5);
        faults("A=1 0|", 6);
        faults("A=1 0|\n", 7);
        faults("A=1 0|2", 7);
        faults("A=1 0:", 6);
        faults("A=1 r:", 6);
        faults("A=1 0 B=", 8);
        faults("A=1 0 B=3", 9);
        faults(SIGNS_240 + "|1 ", SIGNS_240.length() + 3);
        faults(ALTERNATIVES_48 + "| ", ALTERNATIVES_48.length() + 2);
        // Cut where it may end, it does not.
        reads("A=1 0", 1, 1, 1);
        reads("A=1 0:1", 1, 1, 1);
        reads("A=1 0'", 1, 1, 1);
    }

    private static void secondRule() {
        faults("A=1 0 A=1 0", 6);
        faults("A=1 0A\n=1 0", 5);
        faults("A=1 0 A=", 6);
        faults("A=1 0 A=?", 6);
        faults("B=1 0 A=1 0 C=1 0 B=1 0", 18);
        faults(TWELVE + " A=1 0", 16);
        // With the 48th ALTERNATIVE and the 240th SIGN behind it too.
        faults(ALTERNATIVES_48 + " A=1 0", ALTERNATIVES_48.length() + 1);
        faults(SIGNS_240 + " A=1 0", SIGNS_240.length() + 1);
        // It comes ahead of a LETTER without a RULE.
        faults("A=1 Z A=1 0", 6);
    }

    private static void rule17() {
        faults(Due.rules(16) + "Q=1 0", 96);
        faults(Due.rules(16) + "\nQ \n = 1 0", 97);
        faults(Due.rules(16) + "Q=", 96);
        faults(Due.rules(16) + "Q=0", 96);
        faults(Due.rules(16) + "A=1 0", 96);
        // Without = it is a SIGN, here one without a RULE.
        faults(Due.rules(16) + "P Q", 98);
        faults(Due.rules(16) + "Q ?", 98);
    }

    private static void alternative49() {
        int length = ALTERNATIVES_48.length();
        faults(ALTERNATIVES_48 + "|1 0", length + 1);
        faults(ALTERNATIVES_48 + "|\n 999 0", length + 3);
        faults(ALTERNATIVES_48 + "|1", length + 1);
        faults(ALTERNATIVES_48 + "|12?", length + 1);
        faults(ALTERNATIVES_48 + "B=1 0", length + 2);
        faults(ALTERNATIVES_48 + " B = 77 0", length + 5);
        faults(ALTERNATIVES_48 + " Z B = 77 0", length + 7);
    }

    private static void weightOutside() {
        faults("A=0", 2);
        faults("A= \n0 0", 4);
        faults("A=1000 0", 2);
        faults("A=\n1000?", 3);
        faults("A=1 0|0 0", 6);
        faults("A=1 0| 1000 0", 7);
        faults("A=1 0|999 0|1234 0", 12);
        faults("A=1 0 B=0 0", 8);
        faults("A=1 0 B=99999999999999999999 0", 8);
    }

    private static void sign13() {
        int length = TWELVE.length();
        faults(TWELVE + "0", length);
        faults(TWELVE + " \n6'':16", length + 2);
        faults(TWELVE + "r", length);
        faults(TWELVE + "r:99", length);
        faults(TWELVE + "0'''", length);
        faults(TWELVE + " A", length + 1);
        faults(TWELVE + " B B=1 0", length + 1);
        faults(TWELVE + "|2" + Due.times(13, "r"), length + 14);
        faults("A=1 0 B=1" + Due.times(13, "A"), 21);
        faults(SIGNS_239 + "rr", SIGNS_240.length());
    }

    private static void sign241() {
        int length = SIGNS_240.length();
        faults(SIGNS_240 + "|1 0", length + 3);
        faults(SIGNS_240 + "|1r:99", length + 2);
        faults(SIGNS_240 + "|1A", length + 2);
        faults(SIGNS_240 + "|1 \n A", length + 5);
        faults(SIGNS_240 + "|1B=", length + 2);
        faults(SIGNS_240 + "B=1 0", length + 4);
        faults(SIGNS_240 + "B=1 A", length + 4);
        faults(SIGNS_239 + "|1 0 0", length + 4);
        faults(SIGNS_239 + "|1 A A B=1 0", length + 4);
        faults(SIGNS_239 + "B=1rC", length + 3);
        // = behind its SIGNS makes a LETTER the next RULE's, also behind the 240th.
        faults(SIGNS_240 + "B=1", length + 3);
    }

    private static void withoutRule() {
        faults("A=1 B", 4);
        faults("A=1 A B", 6);
        faults("A=1 C B", 4);
        faults("A=1 0 B C|2 D B=1 E", 8);
        faults("A=1 0 B=1 C|7 A D", 10);
        faults("B=1 A", 4);
        faults("Y=1 Z A", 4);
        faults("Z=1 0 Y", 6);
        reads("A=1 B B=1 A", 2, 2, 2);
        // Only if there is no other fault.
        faults("A=1 B B=", 8);
        faults("A=1 Z" + Due.times(12, " 0"), 28);
        faults("A=1 Z|1000 0", 6);
    }

    private static void pitches() {
        int[] above = {0, 2, 4, 5, 7, 9, 11};
        String[] marks = {",,", ",", "", "'", "''"};
        for (int degree = 0; degree <= 6; degree++) {
            for (int octave = -2; octave <= 2; octave++) {
                String note = degree + marks[octave + 2];
                is("PITCH of " + note, 60 + above[degree] + 12 * octave, told(note, 0));
                is("degree of " + note, degree, told(note, 3));
            }
        }
    }

    // ---- the calls text, cut, read and rule

    private static void upToEight() {
        GrammarTunes x = new GrammarTunes();
        is("none", 0, x.text(0L));
        is("one", 1, x.text(Due.row("A")));
        is("seven", 8, x.text(Due.row("=1 0 1 ")));
        is("eight", 16, x.text(Due.row("2 3 4 5 ")));
        is("none more", 16, x.text(0L));
        is("all of them", 1, x.read());
        is("the SIGNS of all of them", 6, x.told(5));
    }

    private static void highestFirst() {
        GrammarTunes x = new GrammarTunes();
        is("0 between", 3, x.text(0x4100003D00003100L));
        is("0 ahead", 5, x.text(0x0000000000002030L));
        is("0 behind", 7, x.text(0x202F000000000000L));
        is("read as A=1 0 /", -16, x.read());
        x.cut(5);
        is("read as A=1 0", 1, x.read());
    }

    private static void everyByte() {
        for (int value = 0; value < 256; value++) {
            GrammarTunes x = Due.with("A");
            boolean taken = value == 0 || value == 10 || value >= 32 && value <= 126;
            int characters = 1;
            for (int shift = 0; shift < 64; shift += 8) {
                long alone = (long) value << shift;
                characters += taken && value != 0 ? 1 : 0;
                is("byte " + value + " at " + shift, taken ? characters : RANGE, x.text(alone));
                long amongst = Due.row("AAAAAAAA") & ~(0xFFL << shift) | alone;
                characters += taken ? value == 0 ? 7 : 8 : 0;
                is("byte " + value + " amongst others at " + shift, taken ? characters : RANGE, x.text(amongst));
                is("characters with byte " + value, characters, x.told(0));
            }
        }
    }

    private static void full() {
        GrammarTunes x = Due.with(Due.times(1192, "A"));
        is("just 1200", 1200, x.text(Due.row("AAAAAAAA")));
        is("not one more", FULL, x.text('A'));
        is("none more", 1200, x.text(0L));
        x.cut(1199);
        is("not two more", FULL, x.text(Due.row("AA")));
        is("changed nothing", 1199, x.told(0));
        is("one more, with 0s", 1200, x.text(0x0000004100000000L));
        x.cut(1193);
        is("not eight more", FULL, x.text(Due.row("AAAAAAAA")));
        is("eight of which none is taken", 1193, x.told(0));
        is("a byte that is not as told", RANGE, x.text(Due.row("AAAAAAA") << 8 | 0x7F));
        is("seven more", 1200, x.text(Due.row("AAAAAAA")));
    }

    private static void cut() {
        GrammarTunes x = Due.with("A=1 0 1 2");
        is("cut(-1)", RANGE, x.cut(-1));
        is("cut(10) of 9", RANGE, x.cut(10));
        is("cut least", RANGE, x.cut(Integer.MIN_VALUE));
        is("cut greatest", RANGE, x.cut(Integer.MAX_VALUE));
        is("nothing went", 9, x.told(0));
        is("cut(9) of 9", 0, x.cut(9));
        is("cut(8) of 9", 1, x.cut(8));
        is("cut(9) of 8", RANGE, x.cut(9));
        is("cut(5) of 8", 3, x.cut(5));
        is("the first five", 1, x.read());
        is("their SIGN", 1, x.told(5));
        is("cut(0) of 5", 5, x.cut(0));
        is("cut(0) of 0", 0, x.cut(0));
        is("cut(1) of 0", RANGE, x.cut(1));
        is("all went", -10, x.read());
        // What went is not read, wherever the first n end.
        String whole = "A=1 0 A=12 0'':16";
        int[] due = {-10, -11, -12, -13, -14, 1, 1, 1, -16, -16, -16, -16};
        for (int n = 0; n < due.length; n++) {
            x = Due.with(whole);
            x.cut(n);
            is("the first " + n + " of " + whole, due[n], x.read());
        }
        x = Due.with("A=1 0:16");
        x.cut(7);
        is("a length of which a digit went", 1, x.read());
        is("it is not 16", NONE, x.make(1, 0L));
    }

    private static void stays() {
        GrammarTunes x = Due.with("A=1 0");
        is("read", 1, x.read());
        is("stays", 5, x.told(0));
        is("more behind it", 7, x.text(Due.row("|?")));
        is("a fault", -16, x.read());
        is("stays with a fault", 7, x.told(0));
        is("cut", 2, x.cut(5));
        is("read again", 1, x.read());
    }

    private static void readsNext(GrammarTunes x, String text, int rules, int alternatives, int signs) {
        x.cut(0);
        Due.write(x, text);
        is("read() of " + text, rules, x.read());
        is("RULES of " + text, rules, x.told(1));
        is("ALTERNATIVES of " + text, alternatives, x.told(4));
        is("SIGNS of " + text, signs, x.told(5));
    }

    private static void theseThen() {
        GrammarTunes x = Due.with("A=1 0|2 1 B=3 A");
        is("not yet", 0, x.told(1));
        is("RULES", 2, x.read());
        x.cut(0);
        Due.write(x, "C=7 0");
        is("until it is read", 2, x.told(1));
        // These alone, whatever was read or refused before them.
        readsNext(x, "C=7 0", 1, 1, 1);
        is("A is gone", NONE, x.rule(0, 0));
        is("B is gone", NONE, x.rule(1, 1));
        is("C", 7, x.rule(2, 1));
        readsNext(x, "C=7 0|8 A A=9 C", 2, 3, 3);
        is("WEIGHTS of C", 15, x.rule(2, 1));
        is("WEIGHTS of A", 9, x.rule(0, 1));
        x.cut(0);
        Due.write(x, "C=5 0|6 D A=9 C|1 C?");
        is("a FAULT", -29, x.read());
        readsNext(x, "A=4 C C=2 A|3 0:16", 2, 3, 3);
        is("WEIGHTS of A anew", 4, x.rule(0, 1));
        is("WEIGHTS of C anew", 5, x.rule(2, 1));
        is("B is not there", NONE, x.rule(1, 0));
        is("made by these", 1, x.make(1, Seeds.ofDraw(2L, 1)));
        is("in two TRIES", 2, x.tries());
    }

    private static void asBefore() {
        GrammarTunes x = new GrammarTunes();
        is("no RULES, a FAULT", -10, x.read());
        is("no RULES", 0, x.told(1));
        Due.write(x, "A=4 0:8 0:8|5 1:16");
        x.read();
        Due.write(x, " B=9 2:16 C=1 D");
        is("a FAULT at the last LETTER", -42, x.read());
        is("RULES", 1, x.told(1));
        is("ALTERNATIVES", 2, x.told(4));
        is("SIGNS", 3, x.told(5));
        is("WEIGHTS of A", 9, x.rule(0, 1));
        is("B", NONE, x.rule(1, 0));
        is("C", NONE, x.rule(2, 0));
        is("made by them", 2, x.make(1, Seeds.ofDraw(3L)));
        is("made by them, too", 1, x.make(1, Seeds.ofDraw(4L)));
        is("its NOTE", 62, x.item(0, 0));
    }

    private static void ofALetter() {
        GrammarTunes x = Due.reading("A=1 0|2 0|999 0 Z=" + Due.times(44, "999 0|") + "999 0");
        is("rule(0, 0)", 3, x.rule(0, 0));
        is("rule(0, 1)", 1002, x.rule(0, 1));
        is("rule(25, 0)", 45, x.rule(25, 0));
        is("rule(25, 1)", 45 * 999, x.rule(25, 1));
        x = Due.reading("Z=" + Due.times(47, "999 0|") + "999 0");
        is("48 ALTERNATIVES", 48, x.rule(25, 0));
        is("the greatest sum", 48 * 999, x.rule(25, 1));
    }

    private static void hasNoRule() {
        GrammarTunes x = new GrammarTunes();
        is("before any", NONE, x.rule(0, 0));
        is("before any, WEIGHTS", NONE, x.rule(25, 1));
        Due.write(x, "B=1 0");
        x.read();
        for (int letter = -1; letter <= 26; letter++) {
            int due = letter < 0 || letter > 25 ? RANGE : letter == 1 ? 1 : NONE;
            is("rule(" + letter + ", 0)", due, x.rule(letter, 0));
            is("rule(" + letter + ", 1)", due, x.rule(letter, 1));
            is("rule(" + letter + ", -1)", RANGE, x.rule(letter, -1));
            is("rule(" + letter + ", 2)", RANGE, x.rule(letter, 2));
        }
        is("rule(least, 0)", RANGE, x.rule(Integer.MIN_VALUE, 0));
        is("rule(greatest, 0)", RANGE, x.rule(Integer.MAX_VALUE, 0));
        is("rule(1, least)", RANGE, x.rule(1, Integer.MIN_VALUE));
        is("rule(1, greatest)", RANGE, x.rule(1, Integer.MAX_VALUE));
    }
}
