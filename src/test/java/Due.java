/** Counts and prints the calls whose answer is not the one that is due. */
final class Due {
    private static final int MOST_PRINTED = 40;

    private final String topic;
    private int checks = 0;
    private int wrong = 0;

    Due(String topic) {
        this.topic = topic;
    }

    void is(String call, long due, long got) {
        checks++;
        if (got != due) {
            wrong++;
            if (wrong <= MOST_PRINTED) {
                System.out.println(topic + ": " + call + " answered " + got + ", due is " + due);
            }
        }
    }

    boolean isWrong() {
        return wrong > 0;
    }

    void end() {
        System.out.println(topic + ": " + checks + " checks, " + wrong + " wrong");
        if (wrong > 0 || checks == 0) {
            System.exit(1);
        }
    }

    /** The row that text() takes for up to eight characters, the first one highest. */
    static long row(String characters) {
        long row = 0;
        for (int i = 0; i < characters.length(); i++) {
            row = row << 8 | characters.charAt(i) & 0xFF;
        }
        return row;
    }

    static void write(GrammarTunes x, String text) {
        for (int i = 0; i < text.length(); i += 8) {
            x.text(row(text.substring(i, Math.min(i + 8, text.length()))));
        }
    }

    static GrammarTunes with(String text) {
        GrammarTunes x = new GrammarTunes();
        write(x, text);
        return x;
    }

    static GrammarTunes reading(String text) {
        GrammarTunes x = with(text);
        x.read();
        return x;
    }
}
