import java.math.BigInteger;
import java.util.ArrayList;
import java.util.HashMap;
import java.util.List;
import java.util.Map;
import java.util.Random;
import java.util.TreeMap;
import java.util.TreeSet;

/**
 * Many random runs against a plain second writing of the document that shares no idea with the
 * class: numbers of any size, lists that are copied, recursion, a table of what may follow.
 */
public final class ModelTests {
    private static final Due DUE = new Due("model");
    private static final BigInteger TWO_63 = BigInteger.ONE.shiftLeft(63);

    public static void main(String[] args) throws InterruptedException {
        // The model goes as deep as there are TRIES.
        Thread deep = new Thread(null, ModelTests::all, "deep", 1L << 30);
        deep.start();
        deep.join();
        DUE.end();
    }

    private static void all() {
        Random random = new Random(20261116);
        draws(random);
        // No object is used for more than 512 calls: each of these is used twice.
        GrammarTunes x = new GrammarTunes();
        for (int i = 0; i < 6000; i++) {
            x = i % 2 == 0 ? new GrammarTunes() : x;
            reading(random, x);
        }
        for (int i = 0; i < 3000; i++) {
            x = i % 2 == 0 ? new GrammarTunes() : x;
            making(random, x);
        }
        for (int i = 0; i < 1500; i++) {
            walking(random);
        }
        strokes(random);
        rows(random);
    }

    // ---- draws

    private static final class Draws {
        private long state;

        Draws(long seed) {
            state = seed;
        }

        int below(int n) {
            BigInteger size = BigInteger.valueOf(n);
            BigInteger bound = TWO_63.divide(size).multiply(size);
            while (true) {
                state += 0x9E3779B97F4A7C15L;
                long z = state;
                z = (z ^ (z >>> 30)) * 0xBF58476D1CE4E5B9L;
                z = (z ^ (z >>> 27)) * 0x94D049BB133111EBL;
                z = z ^ (z >>> 31);
                BigInteger drawn = new BigInteger(Long.toUnsignedString(z)).shiftRight(1);
                if (drawn.compareTo(bound) < 0) {
                    return drawn.mod(size).intValue();
                }
            }
        }
    }

    private static void draws(Random random) {
        for (int run = 0; run < 200; run++) {
            GrammarTunes x = new GrammarTunes();
            long seed = random.nextLong();
            int n = 1 + random.nextInt(run % 2 == 0 ? 50 : Integer.MAX_VALUE - 1);
            Draws draws = new Draws(seed);
            for (int k = 0; k < 30; k++) {
                DUE.is("below(" + seed + ", " + n + ", " + k + ")", draws.below(n), x.below(seed, n, k));
            }
        }
    }

    // ---- reading

    private record Sign(int letter, int degree, int octave, int length) {
        int pitch() {
            return 60 + new int[] {0, 2, 4, 5, 7, 9, 11}[degree] + 12 * octave;
        }
    }

    private record Alternative(int weight, List<Sign> signs) { }

    private enum At { START, HEAD, WEIGHT, NUMBER, FIRST, LETTER_FIRST, NOTE, UP, UP_TWICE, DOWN, DOWN_TWICE,
        REST, COLON, ONE, LENGTH, LETTER, LETTER_APART, SIGNS }

    /** What may follow, one character at a time; null: nothing does. */
    private static At follow(At at, char c) {
        boolean blank = c == ' ' || c == '\n';
        boolean letter = c >= 'A' && c <= 'Z';
        boolean digit = c >= '0' && c <= '9';
        switch (at) {
            case START:
                return blank ? At.START : letter ? At.HEAD : null;
            case HEAD:
                return blank ? At.HEAD : c == '=' ? At.WEIGHT : null;
            case WEIGHT:
                return blank ? At.WEIGHT : digit && c != '0' ? At.NUMBER : null;
            case NUMBER:
                return digit ? At.NUMBER : blank ? At.FIRST : sign(c, At.LETTER_FIRST);
            case FIRST:
                return blank ? At.FIRST : sign(c, At.LETTER_FIRST);
            case LETTER_FIRST:
                return next(c);
            case NOTE:
                return c == '\'' ? At.UP : c == ',' ? At.DOWN : c == ':' ? At.COLON : next(c);
            case UP:
                return c == '\'' ? At.UP_TWICE : c == ':' ? At.COLON : next(c);
            case DOWN:
                return c == ',' ? At.DOWN_TWICE : c == ':' ? At.COLON : next(c);
            case UP_TWICE:
            case DOWN_TWICE:
            case REST:
                return c == ':' ? At.COLON : next(c);
            case COLON:
                return c == '1' ? At.ONE : digit && c != '0' ? At.LENGTH : null;
            case ONE:
                return c >= '0' && c <= '6' ? At.LENGTH : digit ? null : next(c);
            case LENGTH:
                return digit ? null : next(c);
            case LETTER:
                return c == '=' ? At.WEIGHT : blank ? At.LETTER_APART : next(c);
            case LETTER_APART:
                return c == '=' ? At.WEIGHT : blank ? At.LETTER_APART : next(c);
            default:
                return next(c);
        }
    }

    private static At next(char c) {
        return c == ' ' || c == '\n' ? At.SIGNS : c == '|' ? At.WEIGHT : sign(c, At.LETTER);
    }

    private static At sign(char c, At letter) {
        return c >= 'A' && c <= 'Z' ? letter : c >= '0' && c <= '6' ? At.NOTE : c == 'r' ? At.REST : null;
    }

    private static final class Model {
        final Map<Integer, List<Alternative>> rules = new TreeMap<>();
        int start = -1;
        int alternatives = 0;
        int signs = 0;
        int answer;

        Model(String text) {
            int wrong = firstWrong(text);
            // A blank behind the cut off text lets the last number or LETTER end.
            int limit = firstOverLimit(wrong < 0 ? text : text.substring(0, wrong), text);
            if (wrong >= 0 && (limit < 0 || limit > wrong)) {
                answer = -10 - wrong;
            } else if (limit >= 0) {
                answer = -10 - limit;
            } else {
                answer = rules.size();
            }
        }

        /** The first character that the table does not let follow, or the length; -1: none. */
        private static int firstWrong(String text) {
            At at = At.START;
            for (int i = 0; i < text.length(); i++) {
                at = follow(at, text.charAt(i));
                if (at == null) {
                    return i;
                }
            }
            boolean early = at == At.START || at == At.HEAD || at == At.WEIGHT || at == At.NUMBER
                    || at == At.FIRST || at == At.COLON;
            return early ? text.length() : -1;
        }

        private static boolean isHead(String text, int letterPlace) {
            String behind = text.substring(letterPlace + 1).replace('\n', ' ').stripLeading();
            return behind.startsWith("=");
        }

        /** Takes the words of a text whose characters may follow; the place of what is too much. */
        private int firstOverLimit(String text, String whole) {
            TreeSet<Integer> unknown = new TreeSet<>();
            Map<Integer, Integer> places = new HashMap<>();
            int rule = -1;
            List<Sign> open = null;
            boolean weightDue = false;
            int i = 0;
            while (i < text.length()) {
                char c = text.charAt(i);
                int begin = i;
                i++;
                if (c == ' ' || c == '\n') {
                    continue;
                }
                if (c == '=' || c == '|') {
                    weightDue = true;
                } else if (weightDue) {
                    while (i < text.length() && Character.isDigit(text.charAt(i))) {
                        i++;
                    }
                    String number = whole.substring(begin, i);
                    if (number.length() > 3 || alternatives == 48) {
                        return begin;
                    }
                    open = new ArrayList<>();
                    rules.get(rule).add(new Alternative(Integer.parseInt(number), open));
                    alternatives++;
                    weightDue = false;
                } else if (Character.isUpperCase(c) && isHead(whole, begin) && (open == null || !open.isEmpty())) {
                    if (rules.containsKey(c - 'A') || rules.size() == 16) {
                        return begin;
                    }
                    rule = c - 'A';
                    start = start < 0 ? rule : start;
                    rules.put(rule, new ArrayList<>());
                } else if (open != null) {
                    if (open.size() == 12 || signs == 240) {
                        return begin;
                    }
                    while (i < text.length() && "',:".indexOf(text.charAt(i)) >= 0
                            || i < text.length() && Character.isDigit(text.charAt(i))
                            && text.substring(begin, i).indexOf(':') > 0) {
                        i++;
                    }
                    open.add(signOf(text.substring(begin, i)));
                    signs++;
                    if (Character.isUpperCase(c)) {
                        places.putIfAbsent(c - 'A', begin);
                    }
                }
            }
            if (text.length() < whole.length() || firstWrong(whole) >= 0) {
                return -1;
            }
            for (Map.Entry<Integer, Integer> use : places.entrySet()) {
                if (!rules.containsKey(use.getKey())) {
                    unknown.add(use.getValue());
                }
            }
            return unknown.isEmpty() ? -1 : unknown.first();
        }

        private static Sign signOf(String word) {
            char c = word.charAt(0);
            if (Character.isUpperCase(c)) {
                return new Sign(c - 'A', -1, 0, 0);
            }
            int colon = word.indexOf(':');
            String number = colon < 0 ? "4" : word.substring(colon + 1);
            int length = number.isEmpty() ? 0 : Integer.parseInt(number);
            int octave = 0;
            for (char mark : word.toCharArray()) {
                octave += mark == '\'' ? 1 : mark == ',' ? -1 : 0;
            }
            return new Sign(-1, c == 'r' ? -1 : c - '0', octave, length);
        }
    }

    private static String blanks(Random random, boolean needed) {
        String[] kinds = {"", "", " ", " ", "\n", "  ", " \n"};
        return needed ? " " : kinds[random.nextInt(kinds.length)];
    }

    private static String randomSign(Random random, String letters) {
        int kind = random.nextInt(10);
        if (kind < 3) {
            return "" + letters.charAt(random.nextInt(letters.length()));
        }
        String[] octaves = {"", "", "", "'", "''", ",", ",,"};
        String length = random.nextInt(3) == 0 ? "" : ":" + new int[] {1, 2, 3, 4, 8, 16, 12}[random.nextInt(7)];
        String head = kind < 5 ? "r" : random.nextInt(7) + octaves[random.nextInt(octaves.length)];
        return head + length;
    }

    private static String randomText(Random random, int mostRules, int mostAlternatives, int mostSigns) {
        String letters = "SABCDEFGHIJKLMNOPQ".substring(0, 1 + random.nextInt(mostRules));
        StringBuilder text = new StringBuilder(blanks(random, false));
        for (int r = 0; r < letters.length(); r++) {
            text.append(letters.charAt(r)).append(blanks(random, false)).append('=').append(blanks(random, false));
            int alternatives = 1 + random.nextInt(mostAlternatives);
            for (int a = 0; a < alternatives; a++) {
                text.append(a == 0 ? "" : "|").append(blanks(random, false));
                text.append(random.nextInt(4) == 0 ? 1 + random.nextInt(999) : 1 + random.nextInt(9));
                int signs = 1 + random.nextInt(mostSigns);
                for (int s = 0; s < signs; s++) {
                    String sign = randomSign(random, letters);
                    char last = text.charAt(text.length() - 1);
                    boolean apart = Character.isDigit(last) && Character.isDigit(sign.charAt(0));
                    text.append(blanks(random, apart)).append(sign);
                }
                text.append(blanks(random, false));
            }
        }
        return text.length() > 1200 ? text.substring(0, 1200) : text.toString();
    }

    private static String changed(Random random, String text) {
        StringBuilder changed = new StringBuilder(text);
        int changes = random.nextInt(3);
        String characters = "AZSr0123456789'',,::==|| \n?a";
        for (int i = 0; i < changes; i++) {
            int place = random.nextInt(changed.length() + 1);
            char c = characters.charAt(random.nextInt(characters.length()));
            if (random.nextBoolean() && changed.length() < 1200) {
                changed.insert(place, c);
            } else if (place < changed.length() && random.nextBoolean()) {
                changed.deleteCharAt(place);
            } else if (place < changed.length()) {
                changed.setCharAt(place, c);
            }
        }
        return changed.toString();
    }

    private static String counted(int rules, int alternatives, int signs) {
        StringBuilder text = new StringBuilder();
        int alternativesLeft = alternatives;
        int signsLeft = signs;
        for (int r = 0; r < rules; r++) {
            text.append((char) ('A' + r)).append('=');
            int most = r == rules - 1 ? alternativesLeft : Math.min(alternativesLeft, alternatives / rules);
            for (int a = 0; a < most; a++) {
                int some = Math.max(1, Math.min(12, signsLeft - (alternativesLeft - 1)));
                text.append(a == 0 ? "1" : "|1").append("r".repeat(some));
                alternativesLeft--;
                signsLeft -= some;
            }
        }
        return text.toString();
    }

    /** A text at or near the most RULES, ALTERNATIVES or SIGNS, with some words behind it. */
    private static String crowdedText(Random random) {
        int rules = random.nextInt(3) == 0 ? 15 + random.nextInt(2) : 1 + random.nextInt(3);
        int alternatives = random.nextInt(3) == 0 ? 46 + random.nextInt(3) : 20 + random.nextInt(3);
        int signs = random.nextInt(3) == 0 ? alternatives : 237 + random.nextInt(4);
        StringBuilder text = new StringBuilder(counted(rules, alternatives, signs));
        String[] words = {"|", "|", "1", "1", "|1", "|1", "=", "=", "A", "B", "Q", "Z", "0", "r", "0'", "r:16", "B=1", "Q=1"};
        int more = 1 + random.nextInt(7);
        for (int i = 0; i < more; i++) {
            text.append(blanks(random, false)).append(words[random.nextInt(words.length)]);
        }
        return text.toString();
    }

    private static void reading(Random random, GrammarTunes x) {
        String text;
        switch (random.nextInt(5)) {
            case 3:
                text = crowdedText(random);
                break;
            case 0:
                text = randomText(random, 18, 4, 3);
                break;
            case 1:
                text = randomText(random, 4, 14, 3);
                break;
            case 2:
                text = randomText(random, 4, 6, 13);
                break;
            default:
                text = randomText(random, 3, 2, 3);
        }
        text = changed(random, text);
        Model model = new Model(text);
        x.cut(0);
        Due.write(x, text);
        String call = "read() of " + text;
        DUE.is(call, model.answer, x.read());
        if (model.answer > 0) {
            DUE.is(call + " ALTERNATIVES", model.alternatives, x.told(4));
            DUE.is(call + " SIGNS", model.signs, x.told(5));
            for (int letter = 0; letter < 26; letter++) {
                List<Alternative> rule = model.rules.get(letter);
                int sum = rule == null ? -1 : rule.stream().mapToInt(Alternative::weight).sum();
                DUE.is(call + " rule", rule == null ? -1 : rule.size(), x.rule(letter, 0));
                DUE.is(call + " weights", sum, x.rule(letter, 1));
            }
        }
    }

    // ---- making

    private static final class Vain extends RuntimeException {
        private static final long serialVersionUID = 1L;
    }

    private record Item(Sign sign, int begin) { }

    private static final class Making {
        private final Model model;
        private final int[] wanted;
        private final Draws draws;
        private final int time;
        int tries = 0;
        List<Item> made = null;

        Making(Model model, int[] wanted, int bars, long seed) {
            this.model = model;
            this.wanted = wanted;
            this.draws = new Draws(seed);
            this.time = 16 * bars;
        }

        boolean unfold(List<Sign> yetToCome, List<Item> ahead) {
            List<Sign> coming = new ArrayList<>(yetToCome);
            List<Item> items = new ArrayList<>(ahead);
            while (!coming.isEmpty() && coming.get(0).letter() < 0) {
                Sign sign = coming.remove(0);
                items.add(new Item(sign, end(items)));
                if (fails(items)) {
                    return false;
                }
            }
            if (coming.isEmpty()) {
                return end(items) == time && lastIsWanted(items) && keep(items);
            }
            Sign letter = coming.remove(0);
            List<Alternative> untried = new ArrayList<>(model.rules.get(letter.letter()));
            while (!untried.isEmpty()) {
                if (tries == wanted[6]) {
                    throw new Vain();
                }
                tries++;
                Alternative chosen = chooseFrom(untried);
                List<Sign> then = new ArrayList<>(chosen.signs());
                then.addAll(coming);
                if (then.size() <= 200 && unfold(then, items)) {
                    return true;
                }
            }
            return false;
        }

        private Alternative chooseFrom(List<Alternative> untried) {
            List<Integer> numbered = new ArrayList<>();
            for (int i = 0; i < untried.size(); i++) {
                for (int w = 0; w < untried.get(i).weight(); w++) {
                    numbered.add(i);
                }
            }
            int chosen = numbered.get(draws.below(numbered.size()));
            return untried.remove(chosen);
        }

        private boolean keep(List<Item> items) {
            made = items;
            return true;
        }

        private static int end(List<Item> items) {
            return items.stream().mapToInt(i -> i.sign().length()).sum();
        }

        private static List<Sign> notes(List<Item> items) {
            return items.stream().map(Item::sign).filter(s -> s.degree() >= 0).toList();
        }

        private boolean lastIsWanted(List<Item> items) {
            List<Sign> notes = notes(items);
            return wanted[5] < 0 || !notes.isEmpty() && notes.get(notes.size() - 1).degree() == wanted[5];
        }

        private boolean fails(List<Item> items) {
            Item item = items.get(items.size() - 1);
            int end = end(items);
            if (end > time) {
                return true;
            }
            for (int bar = 16; bar < time; bar += 16) {
                if (wanted[4] == 0 && item.begin() < bar && end > bar) {
                    return true;
                }
            }
            if (item.sign().degree() < 0) {
                return false;
            }
            List<Sign> notes = notes(items);
            int pitch = item.sign().pitch();
            int last = notes.size() - 1;
            if (pitch < wanted[0] || pitch > wanted[1]) {
                return true;
            }
            if (last > 0 && Math.abs(notes.get(last - 1).pitch() - pitch) > wanted[2]) {
                return true;
            }
            int alike = 0;
            while (alike <= last && notes.get(last - alike).pitch() == pitch) {
                alike++;
            }
            return alike > wanted[3];
        }
    }

    private static int[] randomWants(Random random, GrammarTunes x) {
        int[] wanted = {0, 127, 127, 127, 1, -1, 500};
        int[][] values = {{0, 48, 55, 60}, {127, 84, 76}, {127, 12, 7, 4}, {127, 3, 2, 1, 0}, {1, 0},
            {-1, -1, 0, 4, 2}, {500, 100, 20, 1, 3000}};
        for (int i = 0; i < 7; i++) {
            if (random.nextInt(3) == 0) {
                wanted[i] = values[i][random.nextInt(values[i].length)];
            }
            x.want(i, wanted[i]);
        }
        return wanted;
    }

    /** RULES that come to an end, with lengths that fill bars often enough. */
    private static String tameText(Random random) {
        StringBuilder text = new StringBuilder();
        String letters = "SABCD".substring(0, 2 + random.nextInt(4));
        for (int r = 0; r < letters.length(); r++) {
            String below = letters.substring(r + 1);
            text.append(letters.charAt(r)).append('=');
            int alternatives = 1 + random.nextInt(4);
            for (int a = 0; a < alternatives; a++) {
                text.append(a == 0 ? "" : "|").append(1 + random.nextInt(9));
                int signs = 1 + random.nextInt(4);
                for (int s = 0; s < signs; s++) {
                    boolean isLetter = !below.isEmpty() && random.nextInt(3) > 0;
                    String length = new String[] {"", "", ":8", ":2"}[random.nextInt(4)];
                    String sound = random.nextInt(5) == 0 ? "r" : "" + random.nextInt(7);
                    text.append(' ').append(isLetter ? "" + below.charAt(random.nextInt(below.length())) : sound + length);
                }
            }
            text.append('\n');
        }
        return text.toString();
    }

    private static void making(Random random, GrammarTunes x) {
        String text = random.nextInt(3) == 0 ? randomText(random, 4, 4, 4) : tameText(random);
        Model model = new Model(text);
        x.cut(0);
        Due.write(x, text);
        DUE.is("read() of " + text, model.answer, x.read());
        if (model.answer < 0) {
            return;
        }
        for (int run = 0; run < 2; run++) {
            int[] wanted = randomWants(random, x);
            int bars = random.nextInt(5) == 0 ? 1 + random.nextInt(16) : 1 + random.nextInt(4);
            long seed = random.nextLong();
            Making making = new Making(model, wanted, bars, seed);
            int due;
            try {
                boolean made = making.unfold(List.of(new Sign(model.start, -1, 0, 0)), List.of());
                due = made ? making.made.size() : -1;
            } catch (Vain vain) {
                due = -5;
            }
            String call = "make(" + bars + ", " + seed + ") of " + text;
            DUE.is(call, due, x.make(bars, seed));
            DUE.is(call + " tries", making.tries, x.tries());
            DUE.is(call + " items", Math.max(due, 0), x.told(2));
            // The first and the last ones: all of them could be more calls than an object is used for.
            for (int i = 0; i < due; i = i == 9 ? Math.max(10, due - 10) : i + 1) {
                Item item = making.made.get(i);
                boolean rest = item.sign().degree() < 0;
                DUE.is(call + " pitch " + i, rest ? -1 : item.sign().pitch(), x.item(i, 0));
                DUE.is(call + " length " + i, item.sign().length(), x.item(i, 1));
                DUE.is(call + " begin " + i, item.begin(), x.item(i, 2));
                DUE.is(call + " degree " + i, item.sign().degree(), x.item(i, 3));
            }
        }
    }

    // ---- chains, strokes and rows

    private static void walking(Random random) {
        GrammarTunes x = new GrammarTunes();
        List<Integer> corpus = new ArrayList<>();
        int size = random.nextInt(random.nextBoolean() ? 12 : 301);
        int kinds = 1 + random.nextInt(5);
        for (int i = 0; i < size; i++) {
            corpus.add(random.nextInt(kinds));
            x.corpus(corpus.get(i));
        }
        for (int run = 0; run < (size > 90 ? 1 : 2); run++) {
            int k = 1 + random.nextInt(3);
            int place = random.nextInt(size + 3) - 1;
            int n = random.nextInt(201);
            long seed = random.nextLong();
            String call = "walk(" + k + ", " + place + ", " + n + ", " + seed + ") of " + corpus;
            if (place < 0 || place + k > size) {
                DUE.is(call, -3, x.walk(k, place, n, seed));
                continue;
            }
            List<Integer> walk = new ArrayList<>(corpus.subList(place, place + k));
            Draws draws = new Draws(seed);
            for (int i = 0; i < n; i++) {
                List<Integer> latest = walk.subList(walk.size() - k, walk.size());
                List<Integer> behind = new ArrayList<>();
                for (int p = k; p < size; p++) {
                    if (corpus.subList(p - k, p).equals(latest)) {
                        behind.add(corpus.get(p));
                    }
                }
                int following = behind.isEmpty() ? corpus.get(place) : behind.get(draws.below(behind.size()));
                walk.add(following);
            }
            DUE.is(call, walk.size(), x.walk(k, place, n, seed));
            DUE.is(call + " steps", walk.size(), x.steps());
            for (int i = -1; i <= walk.size(); i++) {
                DUE.is(call + " step " + i, i < 0 || i == walk.size() ? 0 : walk.get(i), x.step(i));
            }
        }
    }

    private static int turnedBy(long a, long b, int steps) {
        for (int t = 0; t < steps; t++) {
            boolean all = true;
            for (int i = 0; i < steps; i++) {
                all &= (b >>> i & 1) == (a >>> (i + t) % steps & 1);
            }
            if (all) {
                return t;
            }
        }
        return -1;
    }

    private static void strokes(Random random) {
        GrammarTunes x = new GrammarTunes();
        for (int run = 0; run < 3000; run++) {
            x = run % 250 == 0 ? new GrammarTunes() : x;
            int steps = 1 + random.nextInt(64);
            int strokes = random.nextInt(steps + 1);
            int turn = random.nextInt(steps);
            int i = random.nextInt(1000001);
            int due = BigInteger.valueOf(i + turn).multiply(BigInteger.valueOf(strokes))
                    .mod(BigInteger.valueOf(steps)).intValue() < strokes ? 1 : 0;
            DUE.is("stroke(" + strokes + ", " + steps + ", " + turn + ", " + i + ")", due,
                    x.stroke(strokes, steps, turn, i));
            long a = random.nextInt(3) == 0 ? 0x5555555555555555L << random.nextInt(2) : random.nextLong();
            long b = random.nextLong();
            for (int s = 0; s < steps && run % 4 != 0; s++) {
                long bit = a >>> (s + turn) % steps & 1;
                b = b & ~(1L << s) | bit << s;
            }
            DUE.is("turned(" + a + ", " + b + ", " + steps + ")", turnedBy(a, b, steps), x.turned(a, b, steps));
        }
    }

    private static void rows(Random random) {
        for (int run = 0; run < 200; run++) {
            GrammarTunes x = new GrammarTunes();
            List<Integer> row = new ArrayList<>(List.of(0, 1, 2, 3, 4, 5, 6, 7, 8, 9, 10, 11));
            for (int swap = 0; swap < run % 20; swap++) {
                int i = random.nextInt(12);
                int v = random.nextInt(12);
                java.util.Collections.swap(row, i, row.indexOf(v));
                DUE.is("place", 1, x.place(i, v));
            }
            List<List<Integer>> forms = new ArrayList<>();
            int doubled = 0;
            for (int f = 0; f < 48; f++) {
                List<Integer> form = formOf(row, f / 12, f % 12);
                doubled += forms.contains(form) ? 1 : 0;
                forms.add(form);
                for (int i = (f + run) % 2; i < 12; i += 2) {
                    DUE.is("form of " + row, form.get(i), x.form(f / 12, f % 12, i));
                }
            }
            DUE.is("doubled() of " + row, doubled, x.doubled());
        }
    }

    private static List<Integer> formOf(List<Integer> row, int form, int by) {
        List<Integer> numbers = new ArrayList<>();
        for (int number : row) {
            int above = number - row.get(0);
            numbers.add(((form % 2 == 0 ? number : row.get(0) - above) + by + 24) % 12);
        }
        if (form >= 2) {
            java.util.Collections.reverse(numbers);
        }
        return numbers;
    }
}
