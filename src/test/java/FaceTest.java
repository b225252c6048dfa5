import java.io.IOException;
import java.lang.reflect.Constructor;
import java.lang.reflect.Field;
import java.lang.reflect.Method;
import java.lang.reflect.Modifier;
import java.nio.file.Files;
import java.nio.file.Path;
import java.util.ArrayList;
import java.util.Arrays;
import java.util.LinkedHashMap;
import java.util.List;
import java.util.Map;
import java.util.TreeMap;
import java.util.TreeSet;
import java.util.regex.Matcher;
import java.util.regex.Pattern;

/** The public face: these constants, this constructor, these methods, and nothing else that can be reached. */
public final class FaceTest {
    private static final Due due = new Due("FaceTest");
    private static final Path DOCUMENT = Path.of("../shared/DOC.md");
    private static final Path CLASS = Path.of("src/main/java/WheelsSlip.java");
    private static final String[] METHODS = {
        "int row(int,int)", "int lay(int,int,int)", "int at(int,int)", "int tear(int)",
        "int copy(int,int,int,int,int)", "int mean(int)", "int text(int,int)", "int put(int,int,int)",
        "int fault(int)", "int train(int)", "int wagon(int,int)", "int mark(int,int)", "int engine(int)",
        "int go(int)", "int undo(int)", "int keep(int)", "int on(int)", "int grip()", "int load(int)",
        "int steam()", "int would(int)", "int worst()", "int run(int)", "int shortest(int,int)", "int ways(int)",
        "int stay(int)", "int bad()", "int odds(int,int,int)", "int weights(int)", "int lies(int,int)",
        "int trial(int,int)", "int lots(int,int)", "int asked()", "long upper()", "long lower()", "int count(int)",
        "int finding()", "int findings(int)", "long digest()"
    };

    public static void main(String[] args) throws IllegalAccessException, IOException {
        due.is("BAD", WheelsSlip.BAD, -1);
        due.is("FULL", WheelsSlip.FULL, -2);
        due.is("FINDING", WheelsSlip.FINDING, -3);
        due.is("STATE", WheelsSlip.STATE, -4);
        due.is("SPENT", WheelsSlip.SPENT, -6);
        due.is("NONE", WheelsSlip.NONE, -9);
        due.holds("public final class", WheelsSlip.class.getModifiers() == (Modifier.PUBLIC | Modifier.FINAL));
        TreeSet<String> wanted = new TreeSet<>(Arrays.asList(METHODS));
        TreeSet<String> reached = new TreeSet<>();
        TreeSet<String> names = new TreeSet<>();
        for (String face : METHODS) {
            names.add(face.substring(face.indexOf(' ') + 1, face.indexOf('(')));
        }
        for (Method method : WheelsSlip.class.getDeclaredMethods()) {
            if (!Modifier.isPrivate(method.getModifiers())) {
                reached.add(signature(method));
            } else if (names.contains(method.getName())) {
                due.holds("no private method is named " + method.getName(), false);
            }
        }
        due.holds("methods " + reached, reached.equals(wanted));
        fields();
        Constructor<?>[] made = WheelsSlip.class.getDeclaredConstructors();
        due.is("constructors", made.length, 1);
        due.holds("WheelsSlip()", made[0].getParameterCount() == 0 && Modifier.isPublic(made[0].getModifiers()));
        nested(names);
        if (Files.exists(DOCUMENT)) {
            String document = Files.readString(DOCUMENT);
            asPrinted(document, wanted);
            promised(document, wanted);
            underHeadings(document, names);
        } else {
            System.out.println("FaceTest: there is no " + DOCUMENT + " to hold the face against");
        }
        due.end();
    }

    /** The face that the document prints has these members and constants, and no other. */
    private static void asPrinted(String document, TreeSet<String> wanted) throws IllegalAccessException {
        String face = document.substring(document.indexOf("```java"));
        face = face.substring(0, face.indexOf("\n```"));
        TreeSet<String> printed = new TreeSet<>();
        Map<String, Integer> constants = new TreeMap<>();
        for (String line : face.split("\n")) {
            Matcher method = Pattern.compile("    public (int|long) (\\w+)\\((.*)\\);").matcher(line);
            if (method.matches()) {
                printed.add(bare(method.group(1), method.group(2), method.group(3)));
            } else if (line.contains(" static final int ")) {
                Matcher constant = Pattern.compile("(\\w+) = (-?\\d+)").matcher(line);
                while (constant.find()) {
                    constants.put(constant.group(1), Integer.parseInt(constant.group(2)));
                }
            } else {
                due.holds("a line of the face: " + line, List.of("```java", "public final class WheelsSlip {",
                    "    public WheelsSlip();", "}").contains(line));
            }
        }
        due.holds("methods as printed: " + printed, printed.equals(wanted));
        Map<String, Integer> own = new TreeMap<>();
        for (Field field : WheelsSlip.class.getFields()) {
            own.put(field.getName(), field.getInt(null));
        }
        due.holds("constants as printed: " + constants, constants.equals(own));
    }

    private static String bare(String type, String name, String parameters) {
        return type + " " + name + "(" + parameters.replaceAll(" \\w+(?=,|$)", "").replace(", ", ",") + ")";
    }

    /** Each promise from 2 on is of one call, and each call has one. */
    private static void promised(String document, TreeSet<String> wanted) {
        Matcher promise = Pattern.compile("## Promise (\\d+): (\\w+)\n\n`(int|long) (\\w+)\\((.*?)\\)`: ").matcher(document);
        TreeSet<String> promised = new TreeSet<>();
        int many = 1;
        while (promise.find()) {
            many++;
            due.is("number of the promise of " + promise.group(2), Integer.parseInt(promise.group(1)), many);
            promised.add(bare(promise.group(3), promise.group(4), promise.group(5)));
        }
        due.is("promises", many, 40);
        due.holds("methods as promised: " + promised, promised.equals(wanted));
    }

    /** The headings that the interface says ahead of its calls stand there in the class, too. */
    private static void underHeadings(String document, TreeSet<String> names) throws IOException {
        Map<String, List<String>> wanted = new LinkedHashMap<>();
        Matcher ahead = Pattern.compile("Ahead of the calls (.*) the interface says: (---- .*)\\.").matcher(document);
        while (ahead.find()) {
            wanted.put(ahead.group(2), Arrays.asList(ahead.group(1).replace("`", "").split(", ")));
        }
        due.is("headings", wanted.size(), 7);
        Map<String, List<String>> own = new LinkedHashMap<>();
        List<String> under = new ArrayList<>();
        for (String line : Files.readAllLines(CLASS)) {
            Matcher method = Pattern.compile("    public (?:int|long) (\\w+)\\(.*").matcher(line);
            if (line.startsWith("    // ---- ")) {
                under = new ArrayList<>();
                own.put(line.substring(7), under);
            } else if (method.matches()) {
                due.holds("a public name: " + line, names.contains(method.group(1)));
                under.add(method.group(1));
            }
        }
        own.values().removeIf(List::isEmpty);
        due.holds("calls under headings: " + own, own.equals(wanted));
    }

    private static String signature(Method method) {
        StringBuilder text = new StringBuilder();
        text.append(method.getReturnType().getName()).append(' ').append(method.getName()).append('(');
        for (int i = 0; i < method.getParameterCount(); i++) {
            text.append(i == 0 ? "" : ",").append(method.getParameterTypes()[i].getName());
        }
        return text.append(')').toString();
    }

    private static void fields() {
        TreeSet<String> reached = new TreeSet<>();
        for (Field field : WheelsSlip.class.getDeclaredFields()) {
            if (!Modifier.isPrivate(field.getModifiers())) {
                reached.add(field.getName());
            }
            if (Modifier.isStatic(field.getModifiers())) {
                due.holds("final: " + field.getName(), Modifier.isFinal(field.getModifiers()));
            }
        }
        due.is("constants " + reached, reached.size(), 6);
    }

    private static void fewFields(Class<?> made) {
        int many = 0;
        for (Field field : made.getDeclaredFields()) {
            many += Modifier.isStatic(field.getModifiers()) ? 0 : 1;
        }
        due.holds("twenty fields at most: " + made, many <= 20);
    }

    private static void nested(TreeSet<String> names) {
        due.holds("twelve classes at most", WheelsSlip.class.getDeclaredClasses().length < 12);
        fewFields(WheelsSlip.class);
        for (Class<?> inside : WheelsSlip.class.getDeclaredClasses()) {
            int modifiers = inside.getModifiers();
            fewFields(inside);
            due.holds("static: " + inside, Modifier.isStatic(modifiers) && !Modifier.isPublic(modifiers));
            for (Method method : inside.getDeclaredMethods()) {
                due.holds("none bears a public name: " + method, !names.contains(method.getName()));
            }
        }
    }
}
