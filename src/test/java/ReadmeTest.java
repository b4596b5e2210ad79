import java.io.IOException;
import java.lang.reflect.Method;
import java.lang.reflect.Modifier;
import java.nio.file.Files;
import java.nio.file.Path;
import java.util.List;
import java.util.Map;
import java.util.Set;
import java.util.TreeMap;
import java.util.TreeSet;
import java.util.regex.Matcher;
import java.util.regex.Pattern;
import java.util.stream.Collectors;
import java.util.stream.Stream;

/** README.md says what holds: its runs of calls, its table of refusals, its names of calls and of tests. */
final class ReadmeTest {
    private static final Path README = Path.of("README.md"), DOCUMENT = Path.of("../shared/DOC.md");
    private static final Path TESTS = Path.of("src/test/java");
    private static final Pattern MADE = Pattern.compile("PlateCuts plates = new PlateCuts\\(\\);");
    private static final Pattern CALL = Pattern.compile("plates\\.(\\w+)\\(([^()]*)\\); +// (-?\\d+|[A-Z]+)\\b.*");
    private static final Map<String, Long> ANSWERS = Map.of("NONE", -1L, "BAD", -2L, "STATE", -3L, "FULL", -4L,
        "NOTHING", -11L, "CAST", -12L, "PLACE", -13L, "SIZE", -14L, "NO", Long.MIN_VALUE);

    private static final Check CHECK = new Check("ReadmeTest");

    public static void main(String[] args) throws IOException, ReflectiveOperationException {
        List<String> readme = Files.readAllLines(README);
        callsAnswerAsTold(readme);
        refusalsAreTheDocuments(readme);
        callsAreNamed(String.join("\n", readme));
        testsAreNamed(String.join("\n", readme));
        CHECK.finish();
    }

    // ---- the runs of calls, all of them on one object

    private static void callsAnswerAsTold(List<String> readme) throws ReflectiveOperationException {
        PlateCuts plates = null;
        boolean inCode = false;
        int calls = 0;
        for (String line : readme) {
            if (line.startsWith("```")) {
                inCode = line.equals("```java");
                continue;
            }
            if (!inCode) {
                continue;
            }
            Matcher call = CALL.matcher(line);
            if (MADE.matcher(line).matches()) {
                plates = new PlateCuts();
            } else if (plates != null && call.matches()) {
                calls++;
                CHECK.due(line, answer(plates, call.group(1), call.group(2)), number(call.group(3)));
            } else {
                CHECK.holds("a line that is no call: " + line, false);
            }
        }
        CHECK.holds("the calls are few enough: " + calls, calls > 0 && calls <= 512);
    }

    private static long number(String told) {
        return ANSWERS.containsKey(told) ? ANSWERS.get(told) : Long.parseLong(told);
    }

    private static long answer(PlateCuts plates, String name, String words) throws ReflectiveOperationException {
        String[] told = words.isEmpty() ? new String[0] : words.split(", ");
        for (Method method : PlateCuts.class.getMethods()) {
            if (method.getName().equals(name) && method.getParameterCount() == told.length) {
                Object[] values = new Object[told.length];
                for (int i = 0; i < told.length; i++) {
                    values[i] = value(told[i], method.getParameterTypes()[i]);
                }
                return ((Number) method.invoke(plates, values)).longValue();
            }
        }
        throw new NoSuchMethodException(name + " of " + told.length);
    }

    private static Object value(String told, Class<?> type) {
        if (type == boolean.class) {
            return Boolean.valueOf(told);
        }
        long number = told.startsWith("'") ? told.charAt(1) : Long.parseLong(told);
        return type == long.class ? (Object) number : (Object) Math.toIntExact(number);
    }

    // ---- the table of refusals

    private static void refusalsAreTheDocuments(List<String> readme) throws IOException {
        Map<String, Set<String>> due = refusalsOfTheDocument();
        Map<String, Set<String>> told = new TreeMap<>();
        for (String line : readme) {
            String[] cells = line.split(" *\\| *");
            if (cells.length != 5 || !ANSWERS.containsKey(cells[2])) {
                continue;
            }
            String answer = cells[1].replace("`Long.MIN_VALUE`", Long.toString(Long.MIN_VALUE));
            CHECK.due("the number of " + cells[2], Long.parseLong(answer), ANSWERS.get(cells[2]));
            told.put(cells[2], namesIn(cells[4]));
        }
        for (String refusal : ANSWERS.keySet()) {
            CHECK.holds(refusal + " is answered by " + due.get(refusal) + ", told are " + told.get(refusal),
                due.containsKey(refusal) && due.get(refusal).equals(told.get(refusal)));
        }
    }

    /** For each refusal the calls whose promise names it. */
    private static Map<String, Set<String>> refusalsOfTheDocument() throws IOException {
        Map<String, Set<String>> refusals = new TreeMap<>();
        String[] promises = Files.readString(DOCUMENT).split("\n## ");
        for (String promise : promises) {
            Matcher name = Pattern.compile("Promise \\d+: (\\w+)\n").matcher(promise);
            if (name.lookingAt()) {
                Matcher word = Pattern.compile("\\b[A-Z]+\\b").matcher(promise.substring(name.end()));
                while (word.find()) {
                    refusals.computeIfAbsent(word.group(), key -> new TreeSet<>()).add(name.group(1));
                }
            }
        }
        return refusals;
    }

    private static Set<String> namesIn(String cell) {
        return Pattern.compile("`(\\w+)`").matcher(cell).results().map(found -> found.group(1))
            .collect(Collectors.toCollection(TreeSet::new));
    }

    // ---- names

    private static void callsAreNamed(String readme) {
        for (Method method : PlateCuts.class.getDeclaredMethods()) {
            if (Modifier.isPublic(method.getModifiers())) {
                CHECK.holds(method.getName() + " is told of", readme.contains("`" + method.getName() + "`"));
            }
        }
    }

    private static void testsAreNamed(String readme) throws IOException {
        Set<String> due;
        try (Stream<Path> files = Files.list(TESTS)) {
            due = files.map(file -> file.getFileName().toString()).filter(name -> name.endsWith("Test.java"))
                .map(name -> name.replace(".java", "")).collect(Collectors.toCollection(TreeSet::new));
        }
        Set<String> told = namesIn(readme);
        told.removeIf(name -> !name.endsWith("Test"));
        CHECK.holds("the tests are " + due + ", told are " + told, due.equals(told));
    }
}
