import java.io.IOException;
import java.lang.reflect.Field;
import java.lang.reflect.Member;
import java.lang.reflect.Method;
import java.lang.reflect.Modifier;
import java.nio.file.Files;
import java.nio.file.Path;
import java.util.Arrays;
import java.util.Map;
import java.util.TreeMap;
import java.util.TreeSet;
import java.util.regex.Pattern;

/** The document's face, and those rules of LANGUAGE.md that can be seen from outside. */
public final class FaceTests {
    private static final Due DUE = new Due("face");
    private static final String[] METHODS = {
        "text(long)", "cut(int)", "read()", "rule(int, int)", "want(int, int)", "make(int, long)", "tries()",
        "item(int, int)", "below(long, int, int)", "corpus(int)", "forget()", "walk(int, int, int, long)",
        "step(int)", "steps()", "stroke(int, int, int, int)", "turned(long, long, int)", "place(int, int)",
        "form(int, int, int)", "doubled()", "told(int)"};
    private static final String[] BANNED = {"throw", "try", "catch", "synchronized", "assert", "->", "::",
        "\\w*Exact", "\\w*Exception", "\\w*_VALUE", "protected", "package", "hashCode", "toString",
        "record", "volatile", "native"};

    public static void main(String[] args) throws IOException {
        constants();
        methods();
        nothingElse();
        nested();
        words();
        extremes();
        DUE.end();
    }

    private static void constants() {
        Map<String, Integer> due = Map.of("NONE", -1, "RANGE", -2, "STATE", -3, "FULL", -4, "VAIN", -5);
        Map<String, Integer> got = new TreeMap<>();
        for (Field field : GrammarTunes.class.getFields()) {
            got.put(field.getName(), Modifier.isFinal(field.getModifiers()) ? 1 : 0);
        }
        DUE.is("constants " + got, 1, got.keySet().equals(due.keySet()) && !got.containsValue(0) ? 1 : 0);
        DUE.is("NONE", -1, GrammarTunes.NONE);
        DUE.is("RANGE", -2, GrammarTunes.RANGE);
        DUE.is("STATE", -3, GrammarTunes.STATE);
        DUE.is("FULL", -4, GrammarTunes.FULL);
        DUE.is("VAIN", -5, GrammarTunes.VAIN);
    }

    private static void methods() {
        TreeSet<String> due = new TreeSet<>(Arrays.asList(METHODS));
        TreeSet<String> got = new TreeSet<>();
        for (Method method : GrammarTunes.class.getDeclaredMethods()) {
            if (!Modifier.isPrivate(method.getModifiers())) {
                String types = Arrays.toString(method.getParameterTypes());
                got.add(method.getName() + "(" + types.substring(1, types.length() - 1) + ")");
                DUE.is(method.getName() + " answers an int", 1, method.getReturnType() == int.class ? 1 : 0);
                DUE.is(method.getName() + " is public", 1, Modifier.isPublic(method.getModifiers()) ? 1 : 0);
            }
        }
        DUE.is("methods " + got, 1, got.equals(due) ? 1 : 0);
    }

    private static void nothingElse() {
        Class<GrammarTunes> face = GrammarTunes.class;
        DUE.is("public and final", Modifier.PUBLIC | Modifier.FINAL, face.getModifiers());
        DUE.is("one constructor", 1, face.getDeclaredConstructors().length);
        for (Member field : face.getDeclaredFields()) {
            boolean isPublic = Modifier.isPublic(field.getModifiers());
            DUE.is(field.getName() + " is hidden", 1, isPublic || Modifier.isPrivate(field.getModifiers()) ? 1 : 0);
        }
    }

    private static void nested() {
        TreeSet<String> faceNames = new TreeSet<>();
        for (String method : METHODS) {
            faceNames.add(method.substring(0, method.indexOf('(')));
        }
        DUE.is("at most twelve classes", 1, GrammarTunes.class.getDeclaredClasses().length <= 11 ? 1 : 0);
        for (Class<?> inside : GrammarTunes.class.getDeclaredClasses()) {
            DUE.is(inside + " is static", 1, Modifier.isStatic(inside.getModifiers()) ? 1 : 0);
            DUE.is(inside + " has few fields", 1, inside.getDeclaredFields().length <= 20 ? 1 : 0);
            for (Method method : inside.getDeclaredMethods()) {
                DUE.is(method + " has a name of its own", 0, faceNames.contains(method.getName()) ? 1 : 0);
                DUE.is(method + " takes few", 1, method.getParameterCount() <= 7 ? 1 : 0);
            }
            for (Field field : inside.getDeclaredFields()) {
                int kind = field.getModifiers();
                DUE.is(field + " is final", 1, !Modifier.isStatic(kind) || Modifier.isFinal(kind) ? 1 : 0);
            }
        }
    }

    private static void words() throws IOException {
        String source = Files.readString(Path.of("src/main/java/GrammarTunes.java"));
        String code = source.replaceAll("(?s)/\\*.*?\\*/", " ").replaceAll("//[^\n]*", " ");
        for (String word : BANNED) {
            boolean isSign = "-:".indexOf(word.charAt(0)) >= 0;
            Pattern pattern = Pattern.compile(isSign ? word : "\\b" + word + "\\b");
            DUE.is("the word " + word, 0, pattern.matcher(code).find() ? 1 : 0);
        }
        boolean ascii = source.chars().allMatch(c -> c == '\n' || c >= 32 && c < 127);
        DUE.is("plain characters", 1, ascii ? 1 : 0);
        String imports = String.join(";", source.lines().filter(l -> l.startsWith("import ")).toList());
        DUE.is("imports " + imports, 1, imports.equals("import java.util.Arrays;") ? 1 : 0);
    }

    /** No call throws, whatever the arguments and the state. */
    private static void extremes() {
        int[] odd = {Integer.MIN_VALUE, -2, -1, 0, 1, 2, 3, 6, 11, 12, 15, 16, 63, 64, 200, 1000, Integer.MAX_VALUE};
        String[] texts = {"", "S=1 S S S|1 0:1 r|2", "S=1 A S|3 A A=5 0 r:1|2 3':2", "S=1 S|1 S"};
        long calls = 0;
        for (String text : texts) {
            GrammarTunes x = Due.reading(text);
            for (int a : odd) {
                for (int b : odd) {
                    x.want(a, b);
                    calls += x.make(a, b) + x.tries() + x.rule(a, b) + x.item(a, b) + x.place(a, b);
                    for (int c : odd) {
                        calls += x.below(a, b, c) + x.form(a, b, c) + x.turned(a, b, c);
                        calls += x.stroke(a, b, c, a) + x.stroke(c, b, a, c) + x.walk(a, b, c, 1);
                    }
                }
                calls += x.told(a) + x.step(a) + x.corpus(a) + x.steps() + x.text(a) + x.read() + x.cut(a);
            }
            calls += x.forget() + x.doubled();
        }
        DUE.is("calls were made", 1, calls != 0 ? 1 : 0);
    }
}
