import java.io.File;
import java.lang.reflect.Method;
import java.lang.reflect.Modifier;
import java.nio.charset.StandardCharsets;
import java.nio.file.Files;
import java.nio.file.Path;
import java.util.ArrayList;
import java.util.Arrays;
import java.util.List;
import java.util.Set;
import java.util.TreeSet;
import java.util.regex.Matcher;
import java.util.regex.Pattern;

/** What README.md says of the class holds: its examples are run line by line, its lists are compared with what there is. */
public final class ReadmeTest {
    private static final Pattern MADE = Pattern.compile("LoafLetters x = new LoafLetters\\(\\);.*");
    private static final Pattern CALL = Pattern.compile("x\\.(\\w+)\\(([^)]*)\\); +// (-?\\d+|BAD|NO|FULL|NONE)(: .*)?");
    private static final Pattern QUOTED = Pattern.compile(": \"(.*)\"");
    private static final Pattern ROW = Pattern.compile("\\| `(\\w+)\\(([^)]*)\\)` .*\\| *([A-Z, ]*)\\|");
    private static final Pattern TEST_FILE = Pattern.compile("`(\\w+\\.java)`");
    private static final String REFUSALS = """
        write:BAD,FULL wipe: fault:NONE lay:NO word:BAD bake:BAD,FULL day: bite:BAD,FULL take:BAD undo:NO loaf:BAD,NONE
        becomes:BAD mayBe:BAD can:BAD was:BAD half:BAD code:BAD,NONE sent:BAD whom:BAD,NONE two:BAD said:BAD told:BAD,NONE
        month:BAD keep:FULL back:NO count:BAD""";

    public static void main(String[] args) throws Exception {
        List<String> lines = Files.readAllLines(Path.of("README.md"), StandardCharsets.UTF_8);
        Set<String> shown = runExamples(lines);
        Set<String> face = new TreeSet<>();
        for (Method m : LoafLetters.class.getMethods()) {
            if (m.getDeclaringClass() == LoafLetters.class && !Modifier.isStatic(m.getModifiers())) {
                face.add(m.getName());
            }
        }
        Due.same("the calls that the examples show", shown.toString(), face.toString());
        rowsOfCalls(lines);
        filesNamed(lines);
        Due.due(".ci/run can be run", new File(".ci/run").canExecute() ? 1 : 0, 1);
        Due.end("ReadmeTest");
    }

    /** The names of the calls that were run. */
    private static Set<String> runExamples(List<String> lines) throws Exception {
        Set<String> shown = new TreeSet<>();
        LoafLetters x = null;
        boolean inside = false;
        for (String line : lines) {
            if (line.startsWith("```")) {
                inside = line.equals("```java");
            } else if (inside && MADE.matcher(line).matches()) {
                x = new LoafLetters();
            } else if (inside) {
                Matcher m = CALL.matcher(line);
                Due.due("a call with its answer: " + line, m.matches() ? 1 : 0, 1);
                if (m.matches()) {
                    runExample(x, line, m);
                    shown.add(m.group(1));
                }
            }
        }
        return shown;
    }

    private static void runExample(LoafLetters x, String line, Matcher m) throws Exception {
        List<Long> numbers = new ArrayList<>();
        for (String number : m.group(2).isEmpty() ? new String[0] : m.group(2).split(", ")) {
            numbers.add(Long.decode(number.replace("L", "")));
        }
        Method call = called(m.group(1), numbers.size());
        Object[] given = new Object[numbers.size()];
        for (int i = 0; i < given.length; i++) {
            boolean wide = call.getParameterTypes()[i] == long.class;
            given[i] = wide ? (Object) numbers.get(i) : (Object) Math.toIntExact(numbers.get(i));
        }
        Due.due(line, ((Number) call.invoke(x, given)).longValue(), answer(m.group(3)));
        Matcher quoted = QUOTED.matcher(m.group(4) == null ? "" : m.group(4));
        if (quoted.matches()) {
            Due.same(line, text(numbers.get(0), numbers.get(1)), quoted.group(1));
        }
    }

    private static Method called(String name, int parameters) {
        return Arrays.stream(LoafLetters.class.getMethods())
            .filter(m -> m.getName().equals(name) && m.getParameterCount() == parameters)
            .findFirst().orElseThrow(() -> new IllegalArgumentException("no call " + name + " of " + parameters));
    }

    private static long answer(String told) throws Exception {
        return Character.isLetter(told.charAt(0)) ? LoafLetters.class.getField(told).getInt(null) : Long.parseLong(told);
    }

    private static String text(long n, long v) {
        StringBuilder text = new StringBuilder();
        for (long i = n - 1; i >= 0; i--) {
            text.append((char) (v >>> 8 * i & 255));
        }
        return text.toString();
    }

    /** The table has each call once, with its parameters and what it refuses. */
    private static void rowsOfCalls(List<String> lines) {
        List<String> rows = new ArrayList<>();
        for (String line : lines) {
            Matcher m = ROW.matcher(line);
            if (m.matches()) {
                int parameters = m.group(2).isEmpty() ? 0 : m.group(2).split(", ").length;
                called(m.group(1), parameters);
                rows.add(m.group(1) + ":" + m.group(3).replace(" ", ""));
            }
        }
        Due.same("the table of calls", String.join(" ", rows), REFUSALS.replaceAll("\\s+", " "));
    }

    private static void filesNamed(List<String> lines) {
        Set<String> named = new TreeSet<>();
        for (String line : lines) {
            Matcher m = TEST_FILE.matcher(line);
            while (m.find()) {
                named.add(m.group(1));
            }
        }
        String[] there = new File("src/test/java").list();
        Due.same("the tests that are named", named.toString(), new TreeSet<>(Arrays.asList(there)).toString());
    }
}
