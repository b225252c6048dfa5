import java.io.IOException;
import java.lang.reflect.Method;
import java.nio.file.Files;
import java.nio.file.Path;
import java.util.HashMap;
import java.util.List;
import java.util.Map;
import java.util.TreeSet;
import java.util.regex.Matcher;
import java.util.regex.Pattern;
import java.util.stream.Stream;

/** README.md: its run of calls answers as it says, its tables hold every call, constant and test; started where src is. */
public final class ReadmeTest {
    private static final Due due = new Due("ReadmeTest");
    private static final Pattern CALL = Pattern.compile(
        "x\\.(\\w+)\\(([^()]*(?:\\(\\))?)\\); +// (-?\\d+)(?:, tells (-?\\d+))?(?:[:, ].*)?");
    private static final Pattern CALL_ROW = Pattern.compile("\\| `(\\w+)\\(([^)]*)\\)` \\|.*\\|");
    private static final Pattern CONSTANT_ROW = Pattern.compile("\\| `([A-Z]+)` \\| (-\\d) \\|.*\\|");
    private static final Pattern TEST_ROW = Pattern.compile("\\| (\\w+Test) \\|.*\\|");
    // These answer 1 and tell by asked(), or tell a number beside their answer: promise 34 names them.
    private static final List<String> TELLING = List.of("lay", "at", "mean", "wagon", "engine", "grip", "steam",
        "worst", "run", "ways", "bad", "lies", "trial");
    private static final Map<String, Method> CALLS = new HashMap<>();

    public static void main(String[] args) throws IOException, ReflectiveOperationException {
        List<String> lines = Files.readAllLines(Path.of("README.md"));
        for (Method method : WheelsSlip.class.getDeclaredMethods()) {
            if (java.lang.reflect.Modifier.isPublic(method.getModifiers())) {
                CALLS.put(method.getName(), method);
            }
        }
        runs(lines);
        tablesOfCalls(lines);
        tableOfConstants(lines);
        tablesOfTests(lines);
        due.end();
    }

    private static void runs(List<String> lines) throws ReflectiveOperationException {
        int begin = lines.indexOf("```java") + 1;
        due.holds("there is a run of calls", begin > 0);
        due.is("it begins with a new object: " + lines.get(begin),
            lines.get(begin).equals("WheelsSlip x = new WheelsSlip();") ? 1 : 0, 1);
        WheelsSlip x = new WheelsSlip();
        String train = "";
        TreeSet<String> made = new TreeSet<>();
        int calls = 0;
        for (int i = begin + 1; !lines.get(i).equals("```"); i++) {
            String line = lines.get(i);
            Matcher call = CALL.matcher(line);
            if (line.startsWith("String train = \"")) {
                train = line.substring(16, line.length() - 2);
            } else if (line.startsWith("for (int i = 0; i < train.length(); i++) x.put(0, i, train.charAt(i));")) {
                for (int k = 0; k < train.length(); k++) {
                    x.put(0, k, train.charAt(k));
                }
                calls += train.length();
            } else if (call.matches()) {
                calls(x, call, train, line);
                made.add(call.group(1));
                calls++;
            } else {
                due.holds("understood: " + line, line.isEmpty());
            }
        }
        due.holds("it has calls of many kinds: " + made, made.size() >= 25);
        due.holds("512 calls at most", calls <= 512);
    }

    private static void calls(WheelsSlip x, Matcher call, String train, String line)
            throws ReflectiveOperationException {
        Method method = CALLS.get(call.group(1));
        due.holds("there is such a call: " + line, method != null);
        if (method == null) {
            return;
        }
        String[] told = call.group(2).isEmpty() ? new String[0] : call.group(2).split(", ");
        Object[] arguments = new Object[told.length];
        for (int i = 0; i < told.length; i++) {
            arguments[i] = told[i].equals("train.length()") ? train.length() : Integer.parseInt(told[i]);
        }
        long answer = ((Number) method.invoke(x, arguments)).longValue();
        due.is(line, answer, Long.parseLong(call.group(3)));
        due.holds("what is told stands there: " + line,
            (answer >= 0 && TELLING.contains(call.group(1))) == (call.group(4) != null));
        if (call.group(4) != null) {
            due.is(line + " asked()", x.asked(), Long.parseLong(call.group(4)));
        }
    }

    private static void tablesOfCalls(List<String> lines) {
        TreeSet<String> told = new TreeSet<>();
        for (String line : lines) {
            Matcher row = CALL_ROW.matcher(line);
            if (row.matches()) {
                due.holds("told once: " + line, told.add(row.group(1)));
                Method method = CALLS.get(row.group(1));
                int many = row.group(2).isEmpty() ? 0 : row.group(2).split(", ").length;
                due.holds("a call of the face: " + line, method != null && method.getParameterCount() == many);
            }
        }
        due.holds("every call is told: " + told, told.equals(new TreeSet<>(CALLS.keySet())));
    }

    private static void tableOfConstants(List<String> lines) throws ReflectiveOperationException {
        TreeSet<String> told = new TreeSet<>();
        for (String line : lines) {
            Matcher row = CONSTANT_ROW.matcher(line);
            if (row.matches()) {
                told.add(row.group(1));
                due.is(line, WheelsSlip.class.getField(row.group(1)).getInt(null), Integer.parseInt(row.group(2)));
            }
        }
        due.is("every constant is told: " + told, told.size(), WheelsSlip.class.getFields().length);
    }

    private static void tablesOfTests(List<String> lines) throws IOException {
        TreeSet<String> told = new TreeSet<>();
        for (String line : lines) {
            Matcher row = TEST_ROW.matcher(line);
            if (row.matches()) {
                told.add(row.group(1));
            }
        }
        TreeSet<String> there = new TreeSet<>();
        try (Stream<Path> files = Files.list(Path.of("src/test/java"))) {
            files.map(file -> file.getFileName().toString()).filter(name -> name.endsWith("Test.java"))
                .forEach(name -> there.add(name.substring(0, name.length() - 5)));
        }
        due.holds("every test is told: " + told + ", there are " + there, told.equals(there));
    }
}
