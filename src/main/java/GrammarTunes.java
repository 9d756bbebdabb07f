import java.util.Arrays;

/** Tunes that are made by rules and chance; README.md says how to use it. */
public final class GrammarTunes {
    public static final int NONE = -1, RANGE = -2, STATE = -3, FULL = -4, VAIN = -5;

    private static final int FAULT_BASE = -10;
    private static final int END = -1;
    private static final int LETTERS = 26;
    private static final int MOST_CHARACTERS = 1200;
    private static final int MOST_RULES = 16;
    private static final int MOST_ALTERNATIVES = 48;
    private static final int MOST_SIGNS = 240;
    private static final int MOST_SIGNS_OF_ONE = 12;
    private static final int MOST_WEIGHT = 999;
    private static final int MOST_LENGTH = 16;
    private static final int USUAL_LENGTH = 4;

    private static final int BAR = 16;
    private static final int MOST_BARS = 16;
    private static final int MOST_ITEMS = BAR * MOST_BARS;
    private static final int MOST_WAITING = 200;
    private static final int MOST_TRIES = 3000;

    private static final int MOST_NUMBERS = 300;
    private static final int MOST_ORDER = 3;
    private static final int MOST_WALKED = 200;
    private static final int MOST_DRAWN = 1000;
    private static final int MOST_STEPS = 64;
    private static final int LAST_STEP = 1000000;
    private static final int TWELVE = 12;
    private static final int FORMS = 4;

    private static final int LOW = 0, HIGH = 1, LEAP = 2, REPEATS = 3, CROSS = 4, LAST = 5, MOST = 6;
    private static final int WANTS = 7;
    private static final int[] WANTED_AT_FIRST = {0, 127, 127, 127, 1, -1, 500};
    private static final int[] WANTED_LEAST = {0, 0, 0, 0, 0, -1, 1};
    private static final int[] WANTED_GREATEST = {127, 127, 127, 127, 1, 6, 3000};

    private final Script script = new Script();
    private Grammar grammar = new Grammar();
    private Grammar spare = new Grammar();
    private final int[] wanted = new int[WANTS];
    private final Tune tune = new Tune();
    private final Places places = new Places();
    private int latestTries = 0;
    private final Chain chain = new Chain();
    private final ToneRow toneRow = new ToneRow();

    public GrammarTunes() {
        System.arraycopy(WANTED_AT_FIRST, 0, wanted, 0, WANTS);
    }

    public int text(long row) {
        return script.append(row);
    }

    public int cut(int n) {
        return script.shorten(n);
    }

    public int read() {
        int fault = new Reader(script, spare).readAll();
        if (fault != NONE) {
            return FAULT_BASE - fault;
        }
        Grammar old = grammar;
        grammar = spare;
        spare = old;
        return grammar.rules;
    }

    public int rule(int letter, int what) {
        if (!isWithin(letter, 0, LETTERS - 1) || !isWithin(what, 0, 1)) {
            return RANGE;
        }
        if (!grammar.hasRule(letter)) {
            return NONE;
        }
        return what == 0 ? grammar.alternativesOf[letter] : grammar.weightsOf[letter];
    }

    public int want(int which, int v) {
        if (!isWithin(which, 0, WANTS - 1)) {
            return RANGE;
        }
        if (!isWithin(v, WANTED_LEAST[which], WANTED_GREATEST[which])) {
            return RANGE;
        }
        int before = wanted[which];
        wanted[which] = v;
        return before;
    }

    public int make(int bars, long seed) {
        if (!isWithin(bars, 1, MOST_BARS)) {
            return RANGE;
        }
        if (grammar.rules == 0) {
            return STATE;
        }
        Maker maker = new Maker(grammar, wanted, tune, places, new Dice(seed), bars * BAR);
        int answer = maker.unfold();
        latestTries = maker.tries;
        if (answer < 0) {
            tune.shorten(0);
        }
        return answer;
    }

    public int tries() {
        return latestTries;
    }

    public int item(int i, int what) {
        if (!isWithin(what, 0, 3)) {
            return RANGE;
        }
        if (!isWithin(i, 0, tune.count - 1)) {
            return NONE;
        }
        switch (what) {
            case 0:
                return tune.pitch[i];
            case 1:
                return tune.length[i];
            case 2:
                return tune.begin[i];
            default:
                return tune.degree[i];
        }
    }

    public int below(long seed, int n, int k) {
        if (n < 1 || !isWithin(k, 0, MOST_DRAWN)) {
            return RANGE;
        }
        Dice dice = new Dice(seed);
        for (int i = 0; i < k; i++) {
            dice.drawUnder(n);
        }
        return dice.drawUnder(n);
    }

    // ---- chains

    public int corpus(int number) {
        return chain.add(number);
    }

    public int forget() {
        return chain.clear();
    }

    public int walk(int k, int place, int n, long seed) {
        if (!isWithin(k, 1, MOST_ORDER) || !isWithin(n, 0, MOST_WALKED)) {
            return RANGE;
        }
        if (!isWithin(place, 0, chain.count - k)) {
            return STATE;
        }
        return chain.wander(k, place, n, new Dice(seed));
    }

    public int step(int i) {
        return isWithin(i, 0, chain.walked - 1) ? chain.path[i] : 0;
    }

    public int steps() {
        return chain.walked;
    }

    // ---- strokes and rows

    public int stroke(int strokes, int steps, int turn, int i) {
        if (!isWithin(steps, 1, MOST_STEPS) || !isWithin(strokes, 0, steps)) {
            return RANGE;
        }
        if (!isWithin(turn, 0, steps - 1) || !isWithin(i, 0, LAST_STEP)) {
            return RANGE;
        }
        return (i + turn) * strokes % steps < strokes ? 1 : 0;
    }

    public int turned(long a, long b, int steps) {
        if (!isWithin(steps, 1, MOST_STEPS)) {
            return RANGE;
        }
        // A shift by 64 would be one by 0, so the mask is shifted down from all ones.
        long mask = -1L >>> (MOST_STEPS - steps);
        long from = a & mask;
        long to = b & mask;
        if (from == to) {
            return 0;
        }
        for (int t = 1; t < steps; t++) {
            if (((from >>> t | from << (steps - t)) & mask) == to) {
                return t;
            }
        }
        return NONE;
    }

    public int place(int i, int v) {
        if (!isWithin(i, 0, TWELVE - 1) || !isWithin(v, 0, TWELVE - 1)) {
            return RANGE;
        }
        toneRow.swapIn(i, v);
        return 1;
    }

    public int form(int form, int by, int i) {
        if (!isWithin(form, 0, FORMS - 1) || !isWithin(by, 0, TWELVE - 1)) {
            return RANGE;
        }
        if (!isWithin(i, 0, TWELVE - 1)) {
            return RANGE;
        }
        return toneRow.numberOf(form, by, i);
    }

    public int doubled() {
        return toneRow.countDoubled();
    }

    public int told(int what) {
        switch (what) {
            case 0:
                return script.length;
            case 1:
                return grammar.rules;
            case 2:
                return tune.count;
            case 3:
                return chain.count;
            case 4:
                return grammar.alternatives;
            case 5:
                return grammar.signs;
            default:
                return RANGE;
        }
    }

    private static boolean isWithin(int v, int least, int greatest) {
        return v >= least && v <= greatest;
    }

    private static boolean isLetter(int c) {
        return c >= 'A' && c <= 'Z';
    }

    private static boolean isDigit(int c) {
        return c >= '0' && c <= '9';
    }

    private static boolean isDegree(int c) {
        return c >= '0' && c <= '6';
    }

    private static boolean isBlank(int c) {
        return c == ' ' || c == '\n';
    }

    /** STATE and what is drawn from it. */
    private static final class Dice {
        // A draw is refused with a chance below 2^-31, so no run comes near this many.
        private static final int MOST_DRAWS = 1000000;
        private static final long GREATEST_DRAW = 0x7FFFFFFFFFFFFFFFL;

        private long state;

        Dice(long seed) {
            state = seed;
        }

        private long draw() {
            state += 0x9E3779B97F4A7C15L;
            long z = state;
            z = (z ^ z >>> 30) * 0xBF58476D1CE4E5B9L;
            z = (z ^ z >>> 27) * 0x94D049BB133111EBL;
            return (z ^ z >>> 31) >>> 1;
        }

        int drawUnder(int n) {
            if (n < 1) {
                return 0;
            }
            // 2^63 itself is no long: its rest by n is found from the greatest DRAW, which is one less.
            long excess = (GREATEST_DRAW % n + 1) % n;
            long greatest = GREATEST_DRAW - excess;
            for (int i = 0; i < MOST_DRAWS; i++) {
                long drawn = draw();
                if (drawn <= greatest) {
                    return (int) (drawn % n);
                }
            }
            return 0;
        }
    }

    /** THE TEXT. */
    private static final class Script {
        private final char[] characters = new char[MOST_CHARACTERS];
        private int length = 0;

        int append(long row) {
            int more = 0;
            for (int shift = 56; shift >= 0; shift -= 8) {
                int c = byteOf(row, shift);
                if (!isAllowed(c)) {
                    return RANGE;
                }
                more += c == 0 ? 0 : 1;
            }
            if (length + more > MOST_CHARACTERS) {
                return FULL;
            }
            for (int shift = 56; shift >= 0; shift -= 8) {
                int c = byteOf(row, shift);
                if (c != 0) {
                    characters[length] = (char) c;
                    length++;
                }
            }
            return length;
        }

        int shorten(int n) {
            if (!isWithin(n, 0, length)) {
                return RANGE;
            }
            int gone = length - n;
            length = n;
            return gone;
        }

        int at(int place) {
            return place >= 0 && place < length ? characters[place] : END;
        }

        int skipBlanks(int from) {
            int place = from;
            while (place < length && isBlank(at(place))) {
                place++;
            }
            return place;
        }

        private static int byteOf(long row, int shift) {
            return (int) (row >>> shift) & 0xFF;
        }

        private static boolean isAllowed(int c) {
            return c == 0 || c == '\n' || isWithin(c, 32, 126);
        }
    }

    /** RULES: by LETTER the ALTERNATIVES, by ALTERNATIVE the SIGNS, one behind the other. */
    private static final class Grammar {
        private final int[] firstOf = new int[LETTERS];
        private final int[] alternativesOf = new int[LETTERS];
        private final int[] weightsOf = new int[LETTERS];
        private final int[] firstUseOf = new int[LETTERS];
        private final int[] weight = new int[MOST_ALTERNATIVES];
        private final int[] firstSign = new int[MOST_ALTERNATIVES];
        private final int[] endSign = new int[MOST_ALTERNATIVES];
        private final int[] letter = new int[MOST_SIGNS];
        private final int[] degree = new int[MOST_SIGNS];
        private final int[] octave = new int[MOST_SIGNS];
        private final int[] length = new int[MOST_SIGNS];
        private int rules = 0;
        private int alternatives = 0;
        private int signs = 0;
        private int startLetter = 0;
        private int openLetter = 0;

        void clear() {
            rules = 0;
            alternatives = 0;
            signs = 0;
            Arrays.fill(alternativesOf, 0);
            Arrays.fill(weightsOf, 0);
            Arrays.fill(firstUseOf, NONE);
        }

        boolean hasRule(int which) {
            return isWithin(which, 0, LETTERS - 1) && alternativesOf[which] > 0;
        }

        boolean canOpenRule(int which) {
            return isWithin(which, 0, LETTERS - 1) && !hasRule(which) && rules < MOST_RULES;
        }

        void openRule(int which) {
            if (rules == 0) {
                startLetter = which;
            }
            openLetter = which;
            firstOf[which] = alternatives;
            rules++;
        }

        boolean canOpenAlternative() {
            return alternatives < MOST_ALTERNATIVES;
        }

        void openAlternative(int itsWeight) {
            weight[alternatives] = itsWeight;
            firstSign[alternatives] = signs;
            endSign[alternatives] = signs;
            alternatives++;
            alternativesOf[openLetter]++;
            weightsOf[openLetter] += itsWeight;
        }

        boolean canAddSign() {
            return signs < MOST_SIGNS && alternatives > 0
                    && signs - firstSign[alternatives - 1] < MOST_SIGNS_OF_ONE;
        }

        void addLetter(int which, int place) {
            if (firstUseOf[which] == NONE) {
                firstUseOf[which] = place;
            }
            addSign(which, NONE, 0, 0);
        }

        void addSound(int itsDegree, int itsOctave, int itsLength) {
            addSign(NONE, itsDegree, itsOctave, itsLength);
        }

        private void addSign(int which, int itsDegree, int itsOctave, int itsLength) {
            letter[signs] = which;
            degree[signs] = itsDegree;
            octave[signs] = itsOctave;
            length[signs] = itsLength;
            signs++;
            endSign[alternatives - 1] = signs;
        }

        int firstUseWithoutRule() {
            int first = NONE;
            for (int i = 0; i < LETTERS; i++) {
                int use = firstUseOf[i];
                if (use != NONE && !hasRule(i) && (first == NONE || use < first)) {
                    first = use;
                }
            }
            return first;
        }
    }

    /** Reads THE TEXT from its first character on, till it ends or a fault is found. */
    private static final class Reader {
        private final Script script;
        private final Grammar into;
        private int at = 0;
        private int fault = NONE;

        Reader(Script script, Grammar into) {
            this.script = script;
            this.into = into;
        }

        /** The place of the fault, or NONE. */
        int readAll() {
            into.clear();
            at = script.skipBlanks(0);
            // One round more than there may be RULES: the one too many is a fault.
            for (int i = 0; i <= MOST_RULES; i++) {
                if (i > 0 && here() == END) {
                    return into.firstUseWithoutRule();
                }
                if (!readHead() || !readAlternatives()) {
                    return fault;
                }
            }
            return at;
        }

        /** Looks itself, for the calls that read a SIGN are deep already. */
        private int here() {
            return at >= 0 && at < script.length ? script.characters[at] : END;
        }

        private boolean failAt(int place) {
            fault = place;
            return false;
        }

        private boolean readHead() {
            int letter = here() - 'A';
            if (!into.canOpenRule(letter)) {
                return failAt(at);
            }
            at = script.skipBlanks(at + 1);
            if (here() != '=') {
                return failAt(at);
            }
            into.openRule(letter);
            return true;
        }

        /** Begins at the =, and stops at the text's end or the LETTER of the next RULE. */
        private boolean readAlternatives() {
            // One round more than there may be ALTERNATIVES: the one too many is a fault.
            for (int i = 0; i <= MOST_ALTERNATIVES; i++) {
                at = script.skipBlanks(at + 1);
                if (!readWeight() || !readSigns()) {
                    return false;
                }
                if (here() != '|') {
                    return true;
                }
            }
            return failAt(at);
        }

        private boolean readWeight() {
            int first = at;
            if (!isDigit(here()) || here() == '0' || !into.canOpenAlternative()) {
                return failAt(first);
            }
            int weight = 0;
            while (at < script.length && isDigit(here())) {
                weight = weight * 10 + here() - '0';
                if (weight > MOST_WEIGHT) {
                    return failAt(first);
                }
                at++;
            }
            into.openAlternative(weight);
            return true;
        }

        /** Stops at the text's end, a |, or the LETTER of the next RULE. */
        private boolean readSigns() {
            // One round more than there may be SIGNS: the one too many is a fault.
            for (int i = 0; i <= MOST_SIGNS_OF_ONE; i++) {
                at = script.skipBlanks(at);
                if (here() == END || here() == '|') {
                    return i > 0 || failAt(at);
                }
                // Behind a WEIGHT a SIGN must stand: a LETTER there is one, and a = behind it the fault.
                if (i > 0 && isLetterOfRule()) {
                    return true;
                }
                if (!into.canAddSign()) {
                    return failAt(at);
                }
                if (!readSign()) {
                    return false;
                }
            }
            return failAt(at);
        }

        private boolean isLetterOfRule() {
            return isLetter(here()) && script.at(script.skipBlanks(at + 1)) == '=';
        }

        private boolean readSign() {
            int c = here();
            if (isLetter(c)) {
                into.addLetter(c - 'A', at);
                at++;
                return true;
            }
            if (!isDegree(c) && c != 'r') {
                return failAt(at);
            }
            at++;
            int octave = c == 'r' ? 0 : readOctave();
            int length = readLength();
            if (length == NONE) {
                return false;
            }
            into.addSound(c == 'r' ? NONE : c - '0', octave, length);
            return true;
        }

        private int readOctave() {
            int mark = here();
            if (mark != '\'' && mark != ',') {
                return 0;
            }
            at++;
            int marks = 1;
            if (here() == mark) {
                at++;
                marks++;
            }
            return mark == ',' ? -marks : marks;
        }

        private int readLength() {
            if (here() != ':') {
                return USUAL_LENGTH;
            }
            at++;
            if (!isDigit(here()) || here() == '0') {
                failAt(at);
                return NONE;
            }
            int length = 0;
            while (at < script.length && isDigit(here())) {
                length = length * 10 + here() - '0';
                if (length > MOST_LENGTH) {
                    failAt(at);
                    return NONE;
                }
                at++;
            }
            return length;
        }
    }

    /** NOTES and RESTS, with what the next one must know of those ahead of it. */
    private static final class Tune {
        private static final int[] PITCH_OF_DEGREE = {60, 62, 64, 65, 67, 69, 71};

        private final int[] pitch = new int[MOST_ITEMS];
        private final int[] length = new int[MOST_ITEMS];
        private final int[] begin = new int[MOST_ITEMS];
        private final int[] degree = new int[MOST_ITEMS];
        // The latest NOTE up to each item (NONE: there is none), and how many have its PITCH in a row.
        private final int[] latestNote = new int[MOST_ITEMS];
        private final int[] alike = new int[MOST_ITEMS];
        private int count = 0;

        static int pitchOf(int degree, int octave) {
            return isWithin(degree, 0, 6) ? PITCH_OF_DEGREE[degree] + TWELVE * octave : NONE;
        }

        void shorten(int items) {
            if (isWithin(items, 0, count)) {
                count = items;
            }
        }

        int time() {
            return count == 0 ? 0 : begin[count - 1] + length[count - 1];
        }

        int latestPitch() {
            int note = count == 0 ? NONE : latestNote[count - 1];
            return note == NONE ? NONE : pitch[note];
        }

        int latestDegree() {
            int note = count == 0 ? NONE : latestNote[count - 1];
            return note == NONE ? NONE : degree[note];
        }

        int alikeWith(int nextPitch) {
            return latestPitch() == nextPitch ? alike[count - 1] + 1 : 1;
        }

        void add(int itsDegree, int itsPitch, int itsLength) {
            if (count >= MOST_ITEMS) {
                return;
            }
            boolean isRest = itsDegree == NONE;
            int noteAhead = count == 0 ? NONE : latestNote[count - 1];
            int alikeAhead = count == 0 ? 0 : alike[count - 1];
            begin[count] = time();
            alike[count] = isRest ? alikeAhead : alikeWith(itsPitch);
            latestNote[count] = isRest ? noteAhead : count;
            pitch[count] = itsPitch;
            length[count] = itsLength;
            degree[count] = itsDegree;
            count++;
        }
    }

    /**
     * The places with a LETTER, the latest last: all that is needed to be there again.
     * What is yet to come behind a LETTER is never copied: it is the rest of one ALTERNATIVE
     * (from, end) and then what is behind the place where that one was chosen (outer).
     */
    private static final class Places {
        // Each place but the first is opened by a TRY of its own.
        private static final int MOST_PLACES = MOST_TRIES + 1;

        private final int[] letter = new int[MOST_PLACES];
        private final int[] weightLeft = new int[MOST_PLACES];
        private final long[] tried = new long[MOST_PLACES];
        private final int[] items = new int[MOST_PLACES];
        private final int[] waiting = new int[MOST_PLACES];
        private final int[] restFrom = new int[MOST_PLACES];
        private final int[] restEnd = new int[MOST_PLACES];
        private final int[] restOuter = new int[MOST_PLACES];
    }

    /** One MAKING. */
    private static final class Maker {
        private static final int MADE = -11;
        private static final int FAILED = -12;
        // Each round makes a TRY or leaves a place for good, and a TRY opens one place at most.
        private static final int MOST_ROUNDS = 2 * MOST_TRIES + 2;

        private final Grammar grammar;
        private final int[] wanted;
        private final Tune tune;
        private final Places places;
        private final Dice dice;
        private final int fullTime;
        private int tries = 0;
        private int open = 0;
        private int waiting = 0;
        private int from = 0;
        private int end = 0;
        private int outer = NONE;

        Maker(Grammar grammar, int[] wanted, Tune tune, Places places, Dice dice, int fullTime) {
            this.grammar = grammar;
            this.wanted = wanted;
            this.tune = tune;
            this.places = places;
            this.dice = dice;
            this.fullTime = fullTime;
        }

        /** How many items were MADE, or NONE or VAIN. */
        int unfold() {
            tune.shorten(0);
            openPlace(grammar.startLetter);
            for (int round = 0; round < MOST_ROUNDS && open > 0; round++) {
                if (places.weightLeft[open - 1] == 0) {
                    open--;
                    continue;
                }
                if (tries >= wanted[MOST]) {
                    return VAIN;
                }
                takeAnother(open - 1);
                int found = waiting > MOST_WAITING ? FAILED : goToLetter();
                if (found == MADE) {
                    return tune.count;
                }
                if (found != FAILED) {
                    openPlace(found);
                }
            }
            return open == 0 ? NONE : VAIN;
        }

        private void openPlace(int letter) {
            if (open >= Places.MOST_PLACES || !grammar.hasRule(letter)) {
                return;
            }
            places.letter[open] = letter;
            places.weightLeft[open] = grammar.weightsOf[letter];
            places.tried[open] = 0L;
            places.items[open] = tune.count;
            places.waiting[open] = waiting;
            places.restFrom[open] = from;
            places.restEnd[open] = end;
            places.restOuter[open] = outer;
            open++;
        }

        private void takeAnother(int place) {
            int chosen = choose(place);
            tries++;
            tune.shorten(places.items[place]);
            from = grammar.firstSign[chosen];
            end = grammar.endSign[chosen];
            outer = place;
            waiting = places.waiting[place] + end - from;
        }

        private int choose(int place) {
            int letter = places.letter[place];
            int first = grammar.firstOf[letter];
            int number = dice.drawUnder(places.weightLeft[place]);
            int chosen = 0;
            for (int i = 0; i < grammar.alternativesOf[letter]; i++) {
                if ((places.tried[place] >>> i & 1L) != 0L) {
                    continue;
                }
                chosen = i;
                number -= grammar.weight[first + i];
                if (number < 0) {
                    break;
                }
            }
            places.tried[place] |= 1L << chosen;
            places.weightLeft[place] -= grammar.weight[first + chosen];
            return first + chosen;
        }

        /** Takes NOTES and RESTS: the next LETTER, MADE or FAILED. */
        private int goToLetter() {
            for (int i = 0; i <= MOST_WAITING && from < end; i++) {
                int sign = takeFirst();
                if (grammar.letter[sign] != NONE) {
                    return grammar.letter[sign];
                }
                if (!addIfItFits(sign)) {
                    return FAILED;
                }
            }
            return isWhole() ? MADE : FAILED;
        }

        private int takeFirst() {
            int sign = from;
            from++;
            waiting--;
            // Leaving an ended ALTERNATIVE at once keeps every kept rest one step from its SIGN.
            if (from >= end && outer != NONE) {
                int left = outer;
                from = places.restFrom[left];
                end = places.restEnd[left];
                outer = places.restOuter[left];
            }
            return sign;
        }

        private boolean addIfItFits(int sign) {
            int degree = grammar.degree[sign];
            int pitch = Tune.pitchOf(degree, grammar.octave[sign]);
            int begin = tune.time();
            int behind = begin + grammar.length[sign];
            if (behind > fullTime) {
                return false;
            }
            if (wanted[CROSS] == 0 && begin / BAR != (behind - 1) / BAR) {
                return false;
            }
            if (degree != NONE && !pitchFits(pitch)) {
                return false;
            }
            tune.add(degree, pitch, grammar.length[sign]);
            return true;
        }

        private boolean pitchFits(int pitch) {
            if (!isWithin(pitch, wanted[LOW], wanted[HIGH])) {
                return false;
            }
            int ahead = tune.latestPitch();
            if (ahead != NONE && Math.abs(pitch - ahead) > wanted[LEAP]) {
                return false;
            }
            return tune.alikeWith(pitch) <= wanted[REPEATS];
        }

        private boolean isWhole() {
            if (from < end || tune.time() != fullTime) {
                return false;
            }
            return wanted[LAST] == NONE || tune.latestDegree() == wanted[LAST];
        }
    }

    /** THE CORPUS and the latest WALK. */
    private static final class Chain {
        private final int[] numbers = new int[MOST_NUMBERS];
        private final int[] path = new int[MOST_ORDER + MOST_WALKED];
        private final int[] found = new int[MOST_NUMBERS];
        private int count = 0;
        private int walked = 0;

        int add(int number) {
            if (count >= MOST_NUMBERS) {
                return FULL;
            }
            numbers[count] = number;
            count++;
            return count;
        }

        int clear() {
            int had = count;
            count = 0;
            return had;
        }

        int wander(int order, int start, int more, Dice dice) {
            System.arraycopy(numbers, start, path, 0, order);
            walked = order;
            for (int i = 0; i < more; i++) {
                int followers = findFollowers(order);
                int from = followers == 0 ? start : found[dice.drawUnder(followers)];
                path[walked] = numbers[from];
                walked++;
            }
            return walked;
        }

        private int findFollowers(int order) {
            int followers = 0;
            for (int place = order; place < count; place++) {
                if (isBehindLatest(place, order)) {
                    found[followers] = place;
                    followers++;
                }
            }
            return followers;
        }

        private boolean isBehindLatest(int place, int order) {
            for (int back = 1; back <= order; back++) {
                if (numbers[place - back] != path[walked - back]) {
                    return false;
                }
            }
            return true;
        }
    }

    /** THE ROW of twelve. */
    private static final class ToneRow {
        private final int[] row = {0, 1, 2, 3, 4, 5, 6, 7, 8, 9, 10, 11};

        void swapIn(int place, int number) {
            for (int i = 0; i < TWELVE; i++) {
                if (row[i] == number) {
                    row[i] = row[place];
                    row[place] = number;
                    return;
                }
            }
        }

        int numberOf(int form, int by, int i) {
            boolean upsideDown = form == 1 || form == 3;
            boolean backwards = form == 2 || form == 3;
            int number = row[backwards ? TWELVE - 1 - i : i];
            int mirrored = upsideDown ? 2 * row[0] - number : number;
            return Math.floorMod(mirrored + by, TWELVE);
        }

        int countDoubled() {
            int doubles = 0;
            for (int which = 1; which < FORMS * TWELVE; which++) {
                if (isAsOneBefore(which)) {
                    doubles++;
                }
            }
            return doubles;
        }

        private boolean isAsOneBefore(int which) {
            for (int other = 0; other < which; other++) {
                if (isSame(which, other)) {
                    return true;
                }
            }
            return false;
        }

        private boolean isSame(int one, int other) {
            for (int i = 0; i < TWELVE; i++) {
                if (numberOf(one / TWELVE, one % TWELVE, i) != numberOf(other / TWELVE, other % TWELVE, i)) {
                    return false;
                }
            }
            return true;
        }
    }
}
