import java.io.IOException;
import java.lang.reflect.Method;
import java.nio.file.Files;
import java.nio.file.Path;
import java.util.ArrayList;
import java.util.Arrays;
import java.util.LinkedHashMap;
import java.util.List;
import java.util.Map;
import java.util.TreeSet;
import java.util.stream.Stream;

/** Each word of the document's terms and promises is said by a test of a sentence, and each such test says words of it. */
public final class CoverTest {
    private static final Due due = new Due("CoverTest");
    private static final Path DOCUMENT = Path.of("../shared/DOC.md");
    private static final Path TESTS = Path.of("src/test/java");

    private CoverTest() {
    }

    public static void main(String[] args) throws IOException, ClassNotFoundException {
        if (!Files.exists(DOCUMENT)) {
            System.out.println("CoverTest: there is no " + DOCUMENT + " to look the words up in");
            return;
        }
        Map<String, String> sections = sections(Files.readString(DOCUMENT));
        due.is("terms and promises", sections.size(), 43);
        Map<String, boolean[]> said = new LinkedHashMap<>();
        for (Map.Entry<String, String> section : sections.entrySet()) {
            said.put(section.getKey(), new boolean[section.getValue().length()]);
        }
        for (Method test : tests()) {
            String name = test.getName();
            String key = name.startsWith("promise") ? name.substring(0, Math.min(name.length(), 9)) : name.replaceAll("[A-Z0-9].*", "");
            due.holds(name + " bears the name of a term or a promise", sections.containsKey(key));
            for (String words : test.getAnnotation(Says.class).value()) {
                String section = sections.getOrDefault(key, "");
                due.holds(name + ": \"" + words + "\" stands in " + key, section.contains(words));
                for (int at = section.indexOf(words); at >= 0; at = section.indexOf(words, at + 1)) {
                    Arrays.fill(said.get(key), at, at + words.length(), true);
                }
            }
        }
        for (Map.Entry<String, String> section : sections.entrySet()) {
            for (String unsaid : unsaid(section.getValue(), said.get(section.getKey()))) {
                due.holds(section.getKey() + ": a test says \"" + unsaid + "\"", false);
            }
        }
        due.end();
    }

    /** The tests' names begin as the keys: answers, trains, minutes (Terms), promise01 .. promise40. */
    private static Map<String, String> sections(String document) {
        Map<String, String> sections = new LinkedHashMap<>();
        sections.put("answers", plain(between(document, "======== ANSWERS.", "======== 1 ")));
        sections.put("trains", plain(between(document, "======== 1 ", "======== 2 ")));
        sections.put("minutes", plain(between(document, "======== 2 ", "Ahead of the calls")));
        for (int promise = 1; document.contains("## Promise " + promise + ":"); promise++) {
            String section = between(document, "## Promise " + promise + ":", "\n## ");
            String key = "promise" + (promise < 10 ? "0" : "") + promise;
            // The heading and the call's face are FaceTest's.
            sections.put(key, plain(section.substring(section.indexOf("`: ") + 3)));
        }
        return sections;
    }

    private static String between(String document, String head, String tail) {
        int from = document.indexOf(head);
        due.holds("the document has \"" + head + "\"", from >= 0);
        int to = document.indexOf(tail, from + head.length());
        return document.substring(from + head.length(), to < 0 ? document.length() : to);
    }

    private static String plain(String text) {
        return text.replace("```text", " ").replace("```", " ").replaceAll("\\s+", " ").trim();
    }

    private static List<Method> tests() throws IOException, ClassNotFoundException {
        TreeSet<String> names = new TreeSet<>();
        try (Stream<Path> files = Files.list(TESTS)) {
            for (Path file : (Iterable<Path>) files::iterator) {
                String name = file.getFileName().toString();
                if (name.endsWith("SentencesTest.java") || name.endsWith("PromisesTest.java")) {
                    names.add(name.replace(".java", ""));
                }
            }
        }
        List<Method> tests = new ArrayList<>();
        for (String name : names) {
            tests.addAll(Sentences.testsIn(Class.forName(name)));
        }
        due.holds("there are tests of sentences", !tests.isEmpty());
        return tests;
    }

    private static List<String> unsaid(String section, boolean[] said) {
        List<String> unsaid = new ArrayList<>();
        int from = -1;
        for (int i = 0; i <= section.length(); i++) {
            boolean open = i < section.length() && !said[i];
            if (open && from < 0) {
                from = i;
            }
            if (!open && from >= 0) {
                String words = section.substring(from, i);
                if (words.matches("(?s).*[A-Za-z0-9].*")) {
                    unsaid.add(words.trim());
                }
                from = -1;
            }
        }
        return unsaid;
    }
}
