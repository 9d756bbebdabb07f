/** Counts and prints the calls whose answer is not the one that is due. */
final class Due {
    private static final int MOST_PRINTED = 40;

    private final String topic;
    private String sentence = "";
    private int sentences = 0;
    private int checks = 0;
    private int wrong = 0;

    Due(String topic) {
        this.topic = topic;
    }

    /** The checks of one sentence of the document; one that is left without a check is wrong. */
    void sentence(String words, Runnable itsChecks) {
        int before = checks;
        sentence = "'" + words + "': ";
        itsChecks.run();
        if (checks == before) {
            is("how many checks", 1, 0);
        }
        sentence = "";
        sentences++;
    }

    void is(String call, long due, long got) {
        checks++;
        if (got != due) {
            wrong++;
            if (wrong <= MOST_PRINTED) {
                System.out.println(topic + ": " + sentence + call + " answered " + got + ", due is " + due);
            }
        }
    }

    void end() {
        String told = sentences == 0 ? "" : sentences + " sentences, ";
        System.out.println(topic + ": " + told + checks + " checks, " + wrong + " wrong");
        if (wrong > 0 || checks == 0) {
            System.exit(1);
        }
    }

    /** A text is read, and has so many RULES, ALTERNATIVES and SIGNS. */
    void reads(String text, int rules, int alternatives, int signs) {
        GrammarTunes x = with(text);
        String call = "read() of " + shown(text);
        is(call, rules, x.read());
        is(call + ": RULES", rules, x.told(1));
        is(call + ": ALTERNATIVES", alternatives, x.told(4));
        is(call + ": SIGNS", signs, x.told(5));
        is(call + " again", rules, x.read());
    }

    /** A text is refused with a FAULT at a place, and the RULES before it stay. */
    void faults(String text, int place) {
        GrammarTunes x = reading("Q=3 4 4|5 r");
        x.cut(0);
        write(x, text);
        String call = "read() of " + shown(text);
        is(call, -10 - place, x.read());
        is(call + " keeps the RULES", 1, x.told(1));
        is(call + " keeps the ALTERNATIVES", 2, x.told(4));
        is(call + " keeps the SIGNS", 3, x.told(5));
        is(call + " keeps the WEIGHTS", 8, x.rule(16, 1));
        is(call + " keeps the text", text.length(), x.told(0));
    }

    /** The TUNE has these items alone, each told by PITCH, length, begin and degree. */
    void tune(String call, GrammarTunes x, int... rows) {
        is(call + " items", rows.length / 4, x.told(2));
        for (int i = 0; i < rows.length; i++) {
            is(call + " item(" + i / 4 + ", " + i % 4 + ")", rows[i], x.item(i / 4, i % 4));
        }
    }

    /** The latest WALK has these numbers alone. */
    void steps(String call, GrammarTunes x, int... numbers) {
        is(call + " steps", numbers.length, x.steps());
        for (int i = 0; i < numbers.length; i++) {
            is(call + " step(" + i + ")", numbers[i], x.step(i));
        }
    }

    private static String shown(String text) {
        int length = text.length();
        String ends = length <= 120 ? text : text.substring(0, 40) + " .. " + text.substring(length - 70);
        return "\"" + ends.replace('\n', '~') + "\"";
    }

    /** The row that text() takes for up to eight characters, the first one highest. */
    static long row(String characters) {
        long row = 0;
        for (int i = 0; i < characters.length(); i++) {
            row = row << 8 | characters.charAt(i) & 0xFF;
        }
        return row;
    }

    static void write(GrammarTunes x, String text) {
        for (int i = 0; i < text.length(); i += 8) {
            x.text(row(text.substring(i, Math.min(i + 8, text.length()))));
        }
    }

    static GrammarTunes with(String text) {
        GrammarTunes x = new GrammarTunes();
        write(x, text);
        return x;
    }

    static GrammarTunes reading(String text) {
        GrammarTunes x = with(text);
        x.read();
        return x;
    }

    static GrammarTunes corpusOf(int... numbers) {
        GrammarTunes x = new GrammarTunes();
        for (int number : numbers) {
            x.corpus(number);
        }
        return x;
    }

    static String times(int n, String part) {
        return part.repeat(n);
    }

    /** So many RULES of one ALTERNATIVE and one SIGN, six characters each, from the LETTER A on. */
    static String rules(int n) {
        StringBuilder all = new StringBuilder();
        for (int i = 0; i < n; i++) {
            all.append((char) ('A' + i)).append("=1 0 ");
        }
        return all.toString();
    }
}
