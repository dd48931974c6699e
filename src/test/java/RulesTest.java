import java.io.IOException;
import java.nio.file.Files;
import java.nio.file.Path;
import java.util.List;
import java.util.regex.Matcher;
import java.util.regex.Pattern;

/** What of LANGUAGE.md can be seen in the text of the class, line by line. */
public final class RulesTest {
    private static final Checks C = new Checks();
    private static final Path SOURCE = Path.of("src/main/java/DrillWardens.java");

    public static void main(String[] args) throws IOException {
        String source = Files.readString(SOURCE);
        String code = source.replaceAll("(?s)/\\*.*?\\*/", "").replaceAll("//[^\n]*", "").replaceAll("\"[^\"]*\"", "\"\"");
        words(code);
        methods(Files.readAllLines(SOURCE));
        C.finish();
    }

    private static void words(String code) {
        C.test("words that the language leaves out");
        String[] out = {"throw", "throws", "try", "catch", "finally", "assert", "synchronized", "import", "package",
            "native", "volatile", "transient", "protected", "equals", "hashCode", "toString", "->", "::", "float ",
            "Thread", "System\\.(?!arraycopy)", "Math\\.\\w+Exact", "static \\{"};
        for (String word : out) {
            String pattern = Character.isLetter(word.charAt(0)) ? "\\b" + word : word;
            C.holds("no " + word, !Pattern.compile(pattern).matcher(code).find());
        }
        Matcher fields = Pattern.compile("(?m)^\\s*(?:private |public )?static (?!final\\b)[^(]*[;=]").matcher(code);
        C.holds("static fields are final", !fields.find());
        Matcher classes = Pattern.compile("\\bclass \\w+").matcher(code);
        int many = 0;
        while (classes.find()) {
            many++;
        }
        C.holds(many + " classes", many <= 12);
    }

    private static void methods(List<String> lines) {
        C.test("methods stay short");
        int begin = -1;
        for (int i = 0; i < lines.size(); i++) {
            String line = lines.get(i);
            if (begin < 0 && line.matches("\\s+.*\\) \\{") && !line.matches("\\s+(\\} )?(if|for|while|switch|else).*")) {
                begin = i;
            }
            if (begin >= 0 && line.equals(lines.get(begin).replaceAll("\\S.*", "") + "}")) {
                C.holds("lines of " + lines.get(begin).trim(), i - begin < 60);
                begin = -1;
            }
        }
        C.holds("every method ends", begin < 0);
    }
}
