/** The edges of promises 16 to 20, sentence by sentence. */
public final class StrokeAndRowEdgeTests {
    private static final int NONE = GrammarTunes.NONE, RANGE = GrammarTunes.RANGE;
    private static final int[] FAR = {Integer.MIN_VALUE, Integer.MAX_VALUE};
    private static final Due DUE = new Due("edges of strokes and rows");

    public static void main(String[] args) {
        strokes();
        rows();
        DUE.end();
    }

    private static void strokes() {
        DUE.sentence("of so many steps (1 .. 64), with so many strokes", StrokeAndRowEdgeTests::strokeSteps);
        DUE.sentence("with so many strokes (0 .. steps)", StrokeAndRowEdgeTests::strokesOfSteps);
        DUE.sentence("turned by so much (0 .. steps less 1)", StrokeAndRowEdgeTests::strokeTurn);
        DUE.sentence("just if (i + turn) * strokes by steps leaves a rest below strokes",
                StrokeAndRowEdgeTests::strokeRest);
        DUE.sentence("i may be any number 0 .. 1000000. RANGE.", StrokeAndRowEdgeTests::strokeAt);
        DUE.sentence("Of two rows of strokes of so many steps (1 .. 64)", StrokeAndRowEdgeTests::turnedSteps);
        DUE.sentence("told as bits (bit i: step i; bits beyond count for nothing)", StrokeAndRowEdgeTests::bitsBeyond);
        DUE.sentence("the least number t (0 .. steps less 1) by which one is the other one turned",
                StrokeAndRowEdgeTests::leastTurn);
        DUE.sentence("step i of b is as step i + t, modulo steps, of a, for all i; NONE",
                StrokeAndRowEdgeTests::forAllSteps);
    }

    private static void rows() {
        DUE.sentence("The number v (0 .. 11) comes to place i (0 .. 11) of THE ROW", StrokeAndRowEdgeTests::comesTo);
        DUE.sentence("and what was there to the place where v was: 1. RANGE.", StrokeAndRowEdgeTests::whatWasThere);
        DUE.sentence("Number i (0 .. 11) of a form of THE ROW", StrokeAndRowEdgeTests::formRange);
        DUE.sentence("0 as it is, 1 upside down (each the first one less how far it is above the first one),"
                + " 2 backwards, 3 the upside down one backwards", StrokeAndRowEdgeTests::fourForms);
        DUE.sentence("by so much (0 .. 11) higher; all modulo 12. RANGE.", StrokeAndRowEdgeTests::higher);
        DUE.sentence("How many of the 48 forms (form and by) are the same, number by number, as one with lesser form,"
                + " or like form and lesser by", StrokeAndRowEdgeTests::doubled);
    }

    private static void is(String call, long due, long got) {
        DUE.is(call, due, got);
    }

    private static GrammarTunes rowOf(int... numbers) {
        GrammarTunes x = new GrammarTunes();
        for (int i = 0; i < numbers.length; i++) {
            x.place(i, numbers[i]);
        }
        return x;
    }

    private static void formIs(String call, GrammarTunes x, int form, int by, int... numbers) {
        for (int i = 0; i < 12; i++) {
            is(call + " form(" + form + ", " + by + ", " + i + ")", numbers[i], x.form(form, by, i));
        }
    }

    // ---- strokes

    private static void strokeSteps() {
        GrammarTunes x = new GrammarTunes();
        is("steps -1", RANGE, x.stroke(0, -1, 0, 0));
        is("steps 0", RANGE, x.stroke(0, 0, 0, 0));
        is("steps 1", 1, x.stroke(1, 1, 0, 0));
        is("steps 64", 1, x.stroke(1, 64, 0, 0));
        is("steps 64, the last", 0, x.stroke(1, 64, 0, 63));
        is("steps 65", RANGE, x.stroke(1, 65, 0, 0));
        for (int far : FAR) {
            is("steps " + far, RANGE, x.stroke(0, far, 0, 0));
        }
    }

    private static void strokesOfSteps() {
        GrammarTunes x = new GrammarTunes();
        for (int steps : new int[] {1, 2, 8, 64}) {
            is("-1 of " + steps, RANGE, x.stroke(-1, steps, 0, 0));
            is("one more than " + steps, RANGE, x.stroke(steps + 1, steps, 0, 0));
            for (int i = 0; i < 65; i++) {
                is("0 of " + steps, 0, x.stroke(0, steps, steps - 1, i));
            }
        }
        x = new GrammarTunes();
        for (int steps : new int[] {1, 2, 8, 64}) {
            for (int i = 0; i < 65; i++) {
                is("all of " + steps, 1, x.stroke(steps, steps, steps - 1, i));
            }
        }
        for (int far : FAR) {
            is("strokes " + far, RANGE, x.stroke(far, 64, 0, 0));
        }
    }

    private static void strokeTurn() {
        GrammarTunes x = new GrammarTunes();
        for (int steps : new int[] {1, 2, 8, 64}) {
            is("turn -1 of " + steps, RANGE, x.stroke(1, steps, -1, 0));
            is("turn 0 of " + steps, 1, x.stroke(1, steps, 0, 0));
            is("the greatest turn of " + steps, 1, x.stroke(1, steps, steps - 1, 1));
            is("turn " + steps + " of " + steps, RANGE, x.stroke(1, steps, steps, 0));
        }
        for (int far : FAR) {
            is("turn " + far, RANGE, x.stroke(1, 8, far, 0));
        }
    }

    private static void strokeRest() {
        String[] rows = {"10010010", "01001010", "10010100", "01010010"};
        int[] turns = {0, 2, 3, 5};
        GrammarTunes x = new GrammarTunes();
        for (int row = 0; row < rows.length; row++) {
            for (int i = 0; i < 16; i++) {
                is("3 in 8 turned by " + turns[row] + " at " + i, rows[row].charAt(i % 8) - '0',
                        x.stroke(3, 8, turns[row], i));
            }
        }
        // A rest of just strokes is none: (i + turn) * strokes = 5 by 8, 7 by 16.
        is("a rest of 5 by 8", 0, x.stroke(5, 8, 0, 1));
        is("a rest of 4 by 8", 1, x.stroke(5, 8, 0, 4));
        is("a rest of 7 by 16", 0, x.stroke(7, 16, 0, 1));
        is("a rest of 6 by 16", 1, x.stroke(7, 16, 10, 0));
    }

    private static void strokeAt() {
        GrammarTunes x = new GrammarTunes();
        is("i = -1", RANGE, x.stroke(1, 1, 0, -1));
        is("i = 0", 1, x.stroke(1, 1, 0, 0));
        is("i = 1000000", 1, x.stroke(1, 1, 0, 1000000));
        is("i = 1000001", RANGE, x.stroke(1, 1, 0, 1000001));
        for (int far : FAR) {
            is("i = " + far, RANGE, x.stroke(1, 1, 0, far));
        }
        for (int strokes = 0; strokes <= 63; strokes++) {
            int rest = (int) ((1000000L + 62) * strokes % 63);
            is("the farthest of " + strokes + " in 63", rest < strokes ? 1 : 0, x.stroke(strokes, 63, 62, 1000000));
        }
        is("the greatest of all", 1, x.stroke(64, 64, 63, 1000000));
        is("the greatest of 63 in 64", 63L * 1000063 % 64 < 63 ? 1 : 0, x.stroke(63, 64, 63, 1000000));
    }

    private static void turnedSteps() {
        GrammarTunes x = new GrammarTunes();
        for (int steps : new int[] {Integer.MIN_VALUE, -1, 0, 65, 128, Integer.MAX_VALUE}) {
            is("steps " + steps, RANGE, x.turned(0L, 0L, steps));
        }
        for (int steps = 1; steps <= 64; steps++) {
            is("none in " + steps, 0, x.turned(0L, 0L, steps));
            is("the first to the last in " + steps, steps == 1 ? 0 : 1, x.turned(1L, 1L << steps - 1, steps));
            is("the last to the first in " + steps, steps - 1, x.turned(1L << steps - 1, 1L, steps));
        }
    }

    private static void bitsBeyond() {
        GrammarTunes x = new GrammarTunes();
        for (int steps = 1; steps < 64; steps++) {
            long beyond = -1L << steps;
            is("beyond " + steps + " in a", 0, x.turned(1L | beyond, 1L, steps));
            is("beyond " + steps + " in b", 0, x.turned(1L, 1L | beyond, steps));
            is("just beyond " + steps, NONE, x.turned(1L << steps, 1L, steps));
            is("turned, beyond " + steps, steps - 1, x.turned(1L << steps - 1 | beyond, 1L | beyond, steps));
        }
        // Of 64 steps none is beyond.
        is("the highest bit of 64 in a", NONE, x.turned(Long.MIN_VALUE, 0L, 64));
        is("the highest bit of 64 in b", NONE, x.turned(0L, Long.MIN_VALUE, 64));
        is("all of 64", 0, x.turned(-1L, -1L, 64));
    }

    private static void leastTurn() {
        GrammarTunes x = new GrammarTunes();
        is("0 and 2 of 4", 0, x.turned(0b0101L, 0b0101L, 4));
        is("1 and 3 of 4", 1, x.turned(0b0101L, 0b1010L, 4));
        is("each of 6", 0, x.turned(0b111111L, 0b111111L, 6));
        is("2 and 5 of 6", 2, x.turned(0b100100L, 0b001001L, 6));
        is("the greatest of 64", 63, x.turned(1L, 2L, 64));
        is("the greatest of 2", 1, x.turned(1L, 2L, 2));
        is("one step has 0 alone", 0, x.turned(1L, 1L, 1));
        is("one step, not the same", NONE, x.turned(1L, 0L, 1));
        is("1 and 33 of 64", 1, x.turned(0x0000000200000002L, 0x0000000100000001L, 64));
    }

    private static void forAllSteps() {
        GrammarTunes x = new GrammarTunes();
        long a = 0b10010110L;
        for (int t = 0; t < 8; t++) {
            long b = (a >>> t | a << 8 - t) & 0xFF;
            is("by " + t, t, x.turned(a, b, 8));
            for (int i = 0; i < 8; i++) {
                is("by " + t + " but step " + i, NONE, x.turned(a, b ^ 1L << i, 8));
            }
        }
        is("as many strokes, another row", NONE, x.turned(0b0011L, 0b0101L, 4));
        is("upside down", NONE, x.turned(0b001011L, 0b001101L, 6));
        is("64 but the last", NONE, x.turned(-1L, -1L >>> 1, 64));
        is("64 but one each", 62, x.turned(~1L, ~4L, 64));
    }

    // ---- rows

    private static void comesTo() {
        for (int i = 0; i < 12; i++) {
            GrammarTunes x = new GrammarTunes();
            for (int v = 0; v < 12; v++) {
                is("place(" + i + ", " + v + ")", 1, x.place(i, v));
                is("number " + v + " at " + i, v, x.form(0, 0, i));
            }
        }
        GrammarTunes x = new GrammarTunes();
        int[] wrong = {Integer.MIN_VALUE, -1, 12, Integer.MAX_VALUE};
        for (int number : wrong) {
            is("place(" + number + ", 0)", RANGE, x.place(number, 0));
            is("place(0, " + number + ")", RANGE, x.place(0, number));
            is("place(" + number + ", " + number + ")", RANGE, x.place(number, number));
        }
        formIs("refused", x, 0, 0, 0, 1, 2, 3, 4, 5, 6, 7, 8, 9, 10, 11);
    }

    private static void whatWasThere() {
        GrammarTunes x = new GrammarTunes();
        is("the last to the first place", 1, x.place(0, 11));
        formIs("first and last", x, 0, 0, 11, 1, 2, 3, 4, 5, 6, 7, 8, 9, 10, 0);
        is("where it is", 1, x.place(0, 11));
        formIs("where it was", x, 0, 0, 11, 1, 2, 3, 4, 5, 6, 7, 8, 9, 10, 0);
        is("0 to place 5", 1, x.place(5, 0));
        formIs("0 at 5", x, 0, 0, 11, 1, 2, 3, 4, 0, 6, 7, 8, 9, 10, 5);
        is("11 to the last place", 1, x.place(11, 11));
        formIs("11 at the last place", x, 0, 0, 5, 1, 2, 3, 4, 0, 6, 7, 8, 9, 10, 11);
    }

    private static void formRange() {
        GrammarTunes x = new GrammarTunes();
        for (int number : new int[] {Integer.MIN_VALUE, -1, 12, Integer.MAX_VALUE}) {
            is("form(0, 0, " + number + ")", RANGE, x.form(0, 0, number));
            is("form(3, 11, " + number + ")", RANGE, x.form(3, 11, number));
            is("form(0, " + number + ", 0)", RANGE, x.form(0, number, 0));
            is("form(3, " + number + ", 11)", RANGE, x.form(3, number, 11));
        }
        for (int form : new int[] {Integer.MIN_VALUE, -1, 4, Integer.MAX_VALUE}) {
            is("form(" + form + ", 0, 0)", RANGE, x.form(form, 0, 0));
        }
        is("the first of the first form", 0, x.form(0, 0, 0));
        is("the last of the last form", 11, x.form(3, 11, 11));
    }

    private static void fourForms() {
        GrammarTunes x = rowOf(3, 7, 0, 11, 4, 9, 1, 10, 2, 6, 8, 5);
        formIs("as it is", x, 0, 0, 3, 7, 0, 11, 4, 9, 1, 10, 2, 6, 8, 5);
        formIs("upside down", x, 1, 0, 3, 11, 6, 7, 2, 9, 5, 8, 4, 0, 10, 1);
        formIs("backwards", x, 2, 0, 5, 8, 6, 2, 10, 1, 9, 4, 11, 0, 7, 3);
        formIs("upside down backwards", x, 3, 0, 1, 10, 0, 4, 8, 5, 9, 2, 7, 6, 11, 3);
        // The first one at its least and its greatest.
        x = new GrammarTunes();
        formIs("upside down from 0", x, 1, 0, 0, 11, 10, 9, 8, 7, 6, 5, 4, 3, 2, 1);
        x = rowOf(11, 10, 9, 8, 7, 6, 5, 4, 3, 2, 1, 0);
        formIs("upside down from 11", x, 1, 0, 11, 0, 1, 2, 3, 4, 5, 6, 7, 8, 9, 10);
    }

    private static void higher() {
        int[] row = {11, 0, 5, 3, 4, 2, 6, 7, 8, 9, 10, 1};
        for (int form = 0; form < 4; form++) {
            GrammarTunes x = rowOf(row);
            for (int by = 0; by < 12; by++) {
                for (int i = 0; i < 12; i++) {
                    int number = row[form < 2 ? i : 11 - i];
                    int turnedOver = form % 2 == 0 ? number : 11 - (number - 11);
                    is("form(" + form + ", " + by + ", " + i + ")", (turnedOver + by) % 12, x.form(form, by, i));
                }
            }
            is("by -1", RANGE, x.form(form, -1, 0));
            is("by 12", RANGE, x.form(form, 12, 0));
        }
    }

    private static void doubled() {
        is("the scale: backwards is upside down, higher", 24, new GrammarTunes().doubled());
        is("the scale downwards", 24, rowOf(11, 10, 9, 8, 7, 6, 5, 4, 3, 2, 1, 0).doubled());
        is("backwards is as it is, six higher", 24, rowOf(0, 1, 2, 3, 4, 5, 11, 10, 9, 8, 7, 6).doubled());
        is("none", 0, rowOf(1, 0, 2, 3, 4, 5, 6, 7, 8, 9, 10, 11).doubled());
        is("none but for the last two", 0, rowOf(0, 1, 2, 3, 4, 5, 6, 7, 8, 9, 11, 10).doubled());
        GrammarTunes x = rowOf(0, 11, 7, 8, 3, 1, 2, 10, 6, 5, 4, 9);
        is("the wholly other forms of a row of all steps", 0, x.doubled());
        is("it changes nothing", 0, x.form(0, 0, 0));
        is("again", 0, x.doubled());
    }
}
