import java.io.IOException;
import java.nio.file.Files;
import java.nio.file.Path;
import java.util.List;
import java.util.regex.Matcher;
import java.util.regex.Pattern;

/** The rules of ../shared/LANGUAGE.md that the text of the class shows; started where src is. */
public final class LanguageTest {
    private static final Due due = new Due("LanguageTest");
    private static final String[] RULED_OUT = {
        "\\b(throw|throws|try|catch|synchronized|assert|package|import|volatile|transient|native)\\b",
        "->", "::", "\\bequals\\(", "\\bhashCode\\b", "\\btoString\\b", "\\bObject\\b", "\\bprotected\\b",
        "\\bSystem\\.(?!arraycopy\\b)", "\\bThread\\b", "\\bRandom\\b", "\\w+Exact\\b", "\\bdouble\\b", "\\bfloat\\b"
    };

    public static void main(String[] args) throws IOException {
        Path file = Path.of("src/main/java/WheelsSlip.java");
        String bare = withoutComments(Files.readString(file));
        for (String word : RULED_OUT) {
            Matcher found = Pattern.compile(word).matcher(bare);
            due.holds("ruled out: " + word, !found.find());
        }
        for (int i = 0; i < bare.length(); i++) {
            if (bare.charAt(i) > 127) {
                due.holds("a sign above 127 at " + i, false);
            }
        }
        methods(Files.readAllLines(file));
        due.end();
    }

    private static String withoutComments(String text) {
        return text.replaceAll("(?s)/\\*.*?\\*/", "").replaceAll("//[^\n]*", "");
    }

    private static void methods(List<String> lines) {
        Pattern head = Pattern.compile("^( {4}| {8})(public|private) (?!.*class )(.*)\\((.*)\\) \\{$");
        int many = 0;
        for (int i = 0; i < lines.size(); i++) {
            Matcher method = head.matcher(lines.get(i));
            if (method.matches()) {
                many++;
                String name = lines.get(i).trim();
                boolean constructor = !method.group(3).contains(" ");
                int end = i;
                while (!lines.get(end).equals(method.group(1) + "}")) {
                    // All calls of a run live in one room: what an object needs is made with it, and used again.
                    due.holds("nothing is made in " + name, constructor || !lines.get(end).contains("new "));
                    end++;
                }
                due.holds("sixty lines at most: " + name, end - i < 60);
                due.holds("seven parameters at most: " + name, method.group(4).split(",").length <= 7);
            }
        }
        due.holds("the methods are found", many > 80);
    }
}
