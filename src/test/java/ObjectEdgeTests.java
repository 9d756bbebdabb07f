import java.util.ArrayList;
import java.util.List;
import java.util.function.ToIntFunction;

/** The edges of an object as a whole: new, refusing, told of, and used for all its calls. */
public final class ObjectEdgeTests {
    private static final int NONE = GrammarTunes.NONE, RANGE = GrammarTunes.RANGE,
            STATE = GrammarTunes.STATE, FULL = GrammarTunes.FULL;
    private static final int CALLS = 512;
    private static final int[] AT_FIRST = {0, 127, 127, 127, 1, -1, 500};
    private static final Due DUE = new Due("edges of an object");

    public static void main(String[] args) {
        DUE.sentence("No text, no RULES, no NOTES", ObjectEdgeTests::nothingYet);
        DUE.sentence("an empty CORPUS; a ROW 0 .. 11", ObjectEdgeTests::corpusAndRow);
        DUE.sentence("RANGE -2 a number is not as told; STATE -3 as told; FULL -4; VAIN -5", ObjectEdgeTests::answers);
        DUE.sentence("What is refused changes nothing", ObjectEdgeTests::refused);
        DUE.sentence("0 characters, 1 RULES, 2 items of the TUNE, 3 numbers of THE CORPUS, 4 ALTERNATIVES,"
                + " 5 SIGNS of all of them. RANGE.", ObjectEdgeTests::told);
        DUE.sentence("An object is used for at most 512 calls after it has been made", ObjectEdgeTests::all512);
        DUE.end();
    }

    private static void is(String call, long due, long got) {
        DUE.is(call, due, got);
    }

    private static void nothingYet() {
        GrammarTunes x = new GrammarTunes();
        for (int what = 0; what <= 5; what++) {
            is("told(" + what + ")", 0, x.told(what));
        }
        is("cut(0)", 0, x.cut(0));
        is("cut(1)", RANGE, x.cut(1));
        is("read()", -10, x.read());
        for (int letter = 0; letter < 26; letter++) {
            is("rule(" + letter + ", 0)", NONE, x.rule(letter, 0));
        }
        is("make", STATE, x.make(1, 0L));
        is("tries()", 0, x.tries());
        is("item(0, 0)", NONE, x.item(0, 0));
        for (int which = 0; which < 7; which++) {
            is("want(" + which + ")", AT_FIRST[which], x.want(which, AT_FIRST[which]));
        }
        // Another object shares nothing with it.
        Due.reading("A=1 0:16").make(1, 0L);
        is("read() beside another object", -10, x.read());
        is("make beside another object", STATE, x.make(1, 0L));
    }

    private static void corpusAndRow() {
        GrammarTunes x = new GrammarTunes();
        is("forget()", 0, x.forget());
        is("walk", STATE, x.walk(1, 0, 0, 0L));
        is("steps()", 0, x.steps());
        is("step(0)", 0, x.step(0));
        new GrammarTunes().place(0, 11);
        for (int i = 0; i < 12; i++) {
            is("form(0, 0, " + i + ")", i, x.form(0, 0, i));
        }
    }

    private static void answers() {
        is("NONE", -1, GrammarTunes.NONE);
        is("RANGE", -2, new GrammarTunes().told(6));
        is("STATE", -3, new GrammarTunes().make(1, 0L));
        is("FULL", -4, Due.with(Due.times(1200, " ")).text(32L));
        GrammarTunes x = Due.reading("A=1 A");
        is("VAIN", -5, x.make(1, 0L));
    }

    // ---- what is refused

    /** An object in which every part of the state is another than at first. */
    private static GrammarTunes rich() {
        GrammarTunes x = Due.reading("C=3 0:8 B|2 r B=1 2:8|4 1:8");
        x.make(1, Seeds.ofDraw(1L));
        x.cut(9);
        x.text(Due.row("|7 B"));
        int[] wanted = {1, 126, 100, 9, 0, 1, 50};
        for (int which = 0; which < 7; which++) {
            x.want(which, wanted[which]);
        }
        for (int number : new int[] {4, 5, 4, 6, 5}) {
            x.corpus(number);
        }
        x.walk(2, 1, 3, 5L);
        x.place(0, 7);
        x.place(3, 10);
        return x;
    }

    /** All that the calls tell of an object; the last of them change it. */
    private static List<Integer> toldBy(GrammarTunes x) {
        List<Integer> all = new ArrayList<>();
        for (int what = 0; what <= 5; what++) {
            all.add(x.told(what));
        }
        for (int letter = 0; letter < 4; letter++) {
            all.add(x.rule(letter, 0));
            all.add(x.rule(letter, 1));
        }
        all.add(x.tries());
        for (int i = 0; i < 12; i++) {
            all.add(x.item(i / 4, i % 4));
            all.add(x.form(0, 0, i));
        }
        all.add(x.steps());
        for (int i = 0; i < 6; i++) {
            all.add(x.step(i));
        }
        all.add(x.doubled());
        all.add(x.make(1, 3L));
        for (int which = 0; which < 7; which++) {
            all.add(x.want(which, AT_FIRST[which]));
        }
        all.add(x.walk(1, 0, 3, 3L));
        for (int i = 0; i < 4; i++) {
            all.add(x.step(i));
        }
        all.add(x.read());
        all.add(x.forget());
        return all;
    }

    private static void refuses(String call, int due, ToIntFunction<GrammarTunes> refused) {
        GrammarTunes x = rich();
        is(call, due, refused.applyAsInt(x));
        List<Integer> before = toldBy(rich());
        List<Integer> after = toldBy(x);
        for (int i = 0; i < before.size(); i++) {
            is(call + ", then what is told, " + i, before.get(i), after.get(i));
        }
    }

    private static void refused() {
        refuses("text with 127", RANGE, x -> x.text(0x4141414141417FL));
        refuses("text with 9", RANGE, x -> x.text(0x0941414141414141L));
        refuses("text with 255", RANGE, x -> x.text(0x41414141414141FFL));
        refuses("cut(-1)", RANGE, x -> x.cut(-1));
        refuses("cut(14)", RANGE, x -> x.cut(14));
        refuses("read()", -18, x -> x.read());
        refuses("rule(26, 0)", RANGE, x -> x.rule(26, 0));
        refuses("rule(2, 2)", RANGE, x -> x.rule(2, 2));
        refuses("want(7, 1)", RANGE, x -> x.want(7, 1));
        for (int which = 0; which < 7; which++) {
            int wanted = which;
            refuses("want(" + which + ", -2)", RANGE, x -> x.want(wanted, -2));
            refuses("want(" + which + ", 3001)", RANGE, x -> x.want(wanted, 3001));
        }
        refuses("make(0)", RANGE, x -> x.make(0, 1L));
        refuses("make(17)", RANGE, x -> x.make(17, 1L));
        refuses("item(0, 4)", RANGE, x -> x.item(0, 4));
        refuses("below(0, 0, 0)", RANGE, x -> x.below(0L, 0, 0));
        refuses("walk(4, 0, 1)", RANGE, x -> x.walk(4, 0, 1, 0L));
        refuses("walk(1, 0, 201)", RANGE, x -> x.walk(1, 0, 201, 0L));
        refuses("walk(3, 3, 1)", STATE, x -> x.walk(3, 3, 1, 0L));
        refuses("walk(1, -1, 1)", STATE, x -> x.walk(1, -1, 1, 0L));
        refuses("stroke(9, 8, 0, 0)", RANGE, x -> x.stroke(9, 8, 0, 0));
        refuses("turned(0, 0, 0)", RANGE, x -> x.turned(0L, 0L, 0));
        refuses("place(12, 0)", RANGE, x -> x.place(12, 0));
        refuses("place(0, 12)", RANGE, x -> x.place(0, 12));
        refuses("form(4, 0, 0)", RANGE, x -> x.form(4, 0, 0));
        refuses("told(6)", RANGE, x -> x.told(6));
        refusedForWantOfRules();
        refusedFor1200();
    }

    private static void refusedForWantOfRules() {
        GrammarTunes x = Due.with("A=1 0");
        x.want(6, 7);
        is("make", STATE, x.make(1, 0L));
        is("tries()", 0, x.tries());
        is("want(6)", 7, x.want(6, 500));
        is("read()", 1, x.read());
    }

    private static void refusedFor1200() {
        GrammarTunes x = Due.with(Due.times(1192, " ") + "A=1 0:1");
        is("text", FULL, x.text(Due.row("12")));
        is("told(0)", 1199, x.told(0));
        is("one more", 1200, x.text(Due.row("6")));
        is("read()", 1, x.read());
        is("a length of 16", 1, x.make(1, 0L));
    }

    // ---- told

    private static void told() {
        GrammarTunes x = Due.reading("S=1 0:8 A|2 r A=1 0:8");
        x.text(Due.row("??"));
        x.make(1, Seeds.ofDraw(0L));
        x.corpus(4);
        int[] due = {23, 2, 2, 1, 3, 4};
        for (int what = -2; what <= 7; what++) {
            is("told(" + what + ")", what < 0 || what > 5 ? RANGE : due[what], x.told(what));
        }
        is("told(least)", RANGE, x.told(Integer.MIN_VALUE));
        is("told(greatest)", RANGE, x.told(Integer.MAX_VALUE));
        theMostOfEach();
    }

    private static String threeAlike(char letter, String signs) {
        return letter + "=1" + signs + "|1" + signs + "|1" + signs + "\n";
    }

    private static void theMostOfEach() {
        StringBuilder text = new StringBuilder(threeAlike('A', "BBBB") + threeAlike('B', "CCCC")
                + threeAlike('C', "DDDDDDDD") + threeAlike('D', " 0:1 1:1"));
        for (char letter = 'E'; letter <= 'P'; letter++) {
            text.append(threeAlike(letter, letter <= 'F' ? "rrrrrr" : "rrrrr"));
        }
        GrammarTunes x = Due.reading(text + Due.times(1200 - text.length(), " "));
        is("the most items", 256, x.make(16, 0L));
        for (int i = 0; i < 300; i++) {
            x.corpus(i);
        }
        int[] due = {1200, 16, 256, 300, 48, 240};
        for (int what = 0; what <= 5; what++) {
            is("the most, told(" + what + ")", due[what], x.told(what));
        }
    }

    // ---- 512 calls

    private static void lastOf512(String call, int due, ToIntFunction<GrammarTunes> last) {
        GrammarTunes x = new GrammarTunes();
        x.text(Due.row("A=1 2:16"));
        x.read();
        x.make(1, 0L);
        x.corpus(9);
        x.walk(1, 0, 0, 0L);
        for (int calls = 5; calls < CALLS - 1; calls++) {
            x.told(calls % 7);
        }
        is(call + " as the 512th call", due, last.applyAsInt(x));
    }

    private static void all512() {
        lastOf512("text", 9, x -> x.text('?'));
        lastOf512("cut", 8, x -> x.cut(0));
        lastOf512("read", 1, x -> x.read());
        lastOf512("rule", 1, x -> x.rule(0, 1));
        lastOf512("want", 500, x -> x.want(6, 1));
        lastOf512("make", 1, x -> x.make(1, 0L));
        lastOf512("tries", 1, x -> x.tries());
        lastOf512("item", 64, x -> x.item(0, 0));
        lastOf512("below", 3, x -> x.below(0L, 6, 0));
        lastOf512("corpus", 2, x -> x.corpus(9));
        lastOf512("forget", 1, x -> x.forget());
        lastOf512("walk", 3, x -> x.walk(1, 0, 2, 0L));
        lastOf512("step", 9, x -> x.step(0));
        lastOf512("steps", 1, x -> x.steps());
        lastOf512("stroke", 1, x -> x.stroke(3, 8, 0, 3));
        lastOf512("turned", 3, x -> x.turned(1L, 2L, 4));
        lastOf512("place", 1, x -> x.place(0, 1));
        lastOf512("form", 5, x -> x.form(0, 5, 0));
        lastOf512("doubled", 24, x -> x.doubled());
        lastOf512("told", 8, x -> x.told(0));
        // The dearest calls, 512 of them.
        GrammarTunes x = new GrammarTunes();
        x.text(Due.row("A=1 A"));
        x.read();
        x.want(6, 3000);
        for (int i = 3; i < CALLS; i++) {
            is("make", GrammarTunes.VAIN, x.make(16, i));
        }
    }
}
