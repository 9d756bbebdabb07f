import java.io.IOException;
import java.lang.reflect.Method;
import java.nio.file.Files;
import java.nio.file.Path;
import java.util.List;
import java.util.Map;
import java.util.TreeMap;
import java.util.TreeSet;
import java.util.regex.Matcher;
import java.util.regex.Pattern;
import java.util.stream.Stream;

/** What README.md says is true: its calls are made, its tables looked up, its tests are there. */
public final class ReadmeTests {
    private static final int RANGE = GrammarTunes.RANGE;
    private static final Due DUE = new Due("readme");
    private static final Pattern CALL = Pattern.compile("x\\.(\\w+)\\(([^)]*)\\); +// (-?\\d+)(:.*)?");
    private static final Pattern WANTED =
            Pattern.compile("\\| (\\d+) \\| [A-Z]+ \\| (-?\\d+) \\.\\. (\\d+) \\| (-?\\d+) \\|.*");
    private static final Pattern ANSWER = Pattern.compile("\\| (-\\d+) \\| `([A-Z]+)` \\|.*");

    public static void main(String[] args) throws Exception {
        List<String> lines = Files.readAllLines(Path.of("README.md"));
        calls(lines);
        wanted(lines);
        answers(lines);
        testsAreNamed(lines);
        DUE.end();
    }

    // ---- the calls that are shown

    private static void calls(List<String> lines) throws ReflectiveOperationException {
        Map<String, Method> face = face();
        TreeSet<String> shown = new TreeSet<>();
        GrammarTunes x = new GrammarTunes();
        int from = lines.indexOf("```java") + 1;
        int end = from + lines.subList(from, lines.size()).indexOf("```");
        for (String line : lines.subList(from, end)) {
            Matcher call = CALL.matcher(line);
            if (call.matches()) {
                Method method = face.get(call.group(1));
                Object got = method.invoke(x, arguments(method, call.group(2)));
                DUE.is(line, Long.parseLong(call.group(3)), (int) got);
                shown.add(call.group(1));
            } else {
                boolean isOther = line.isEmpty() || line.startsWith("// ") || line.startsWith("GrammarTunes x = ");
                DUE.is("a call with its answer: " + line, 1, isOther ? 1 : 0);
            }
        }
        DUE.is("all calls are shown, " + shown, 1, shown.equals(face.keySet()) ? 1 : 0);
    }

    private static Map<String, Method> face() {
        Map<String, Method> face = new TreeMap<>();
        for (Method method : GrammarTunes.class.getMethods()) {
            if (method.getDeclaringClass() == GrammarTunes.class) {
                face.put(method.getName(), method);
            }
        }
        return face;
    }

    private static Object[] arguments(Method method, String list) {
        Class<?>[] types = method.getParameterTypes();
        Object[] arguments = new Object[types.length];
        String[] words = list.split(", ");
        for (int i = 0; i < types.length; i++) {
            long number = number(words[i]);
            arguments[i] = types[i] == long.class ? (Object) number : (Object) (int) number;
        }
        return arguments;
    }

    private static long number(String word) {
        String digits = word.replace("L", "");
        return digits.startsWith("0b") ? Long.parseLong(digits.substring(2), 2) : Long.decode(digits);
    }

    // ---- the tables

    private static void wanted(List<String> lines) {
        int rows = 0;
        for (String line : lines) {
            Matcher row = WANTED.matcher(line);
            if (row.matches()) {
                wantedIs(line, Integer.parseInt(row.group(1)), Integer.parseInt(row.group(2)),
                        Integer.parseInt(row.group(3)), Integer.parseInt(row.group(4)));
                DUE.is("the next one wanted: " + line, rows, Integer.parseInt(row.group(1)));
                rows++;
            }
        }
        DUE.is("how many are wanted", RANGE, new GrammarTunes().want(rows, 1));
        DUE.is("as many rows", 7, rows);
    }

    private static void wantedIs(String line, int which, int least, int greatest, int atFirst) {
        GrammarTunes x = new GrammarTunes();
        DUE.is("below: " + line, RANGE, x.want(which, least - 1));
        DUE.is("above: " + line, RANGE, x.want(which, greatest + 1));
        DUE.is("at first: " + line, atFirst, x.want(which, least));
        DUE.is("least: " + line, least, x.want(which, greatest));
        DUE.is("greatest: " + line, greatest, x.want(which, atFirst));
    }

    private static void answers(List<String> lines) throws ReflectiveOperationException {
        TreeSet<String> named = new TreeSet<>();
        for (String line : lines) {
            Matcher row = ANSWER.matcher(line);
            if (row.matches()) {
                named.add(row.group(2));
                DUE.is(line, Long.parseLong(row.group(1)), GrammarTunes.class.getField(row.group(2)).getInt(null));
            }
        }
        DUE.is("answers that are named, " + named, GrammarTunes.class.getFields().length, named.size());
    }

    // ---- the tests

    private static void testsAreNamed(List<String> lines) throws IOException {
        String readme = String.join("\n", lines);
        TreeSet<String> named = new TreeSet<>();
        Matcher name = Pattern.compile("`(\\w+Tests)`").matcher(readme);
        while (name.find()) {
            named.add(name.group(1));
        }
        TreeSet<String> there = new TreeSet<>();
        try (Stream<Path> files = Files.list(Path.of("src/test/java"))) {
            files.map(file -> file.getFileName().toString().replace(".java", ""))
                    .filter(file -> file.endsWith("Tests")).forEach(there::add);
        }
        DUE.is("named are " + named + ", there are " + there, 1, named.equals(there) ? 1 : 0);
    }
}
