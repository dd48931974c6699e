import java.io.IOException;
import java.nio.file.DirectoryStream;
import java.nio.file.Files;
import java.nio.file.Path;
import java.util.ArrayList;
import java.util.Arrays;
import java.util.List;
import java.util.Map;
import java.util.TreeMap;
import java.util.regex.Matcher;
import java.util.regex.Pattern;

/**
 * The tests and the document, side by side: each sentence that a test names stands in the document, under its
 * promise; each argument, answer and error of a promise and each sentence of the terms has a test.
 */
public final class SentencesTest {
    private static final Checks C = new Checks();
    private static final Path DOC = Path.of("../shared/DOC.md");
    private static final Path TESTS = Path.of("src/test/java");
    private static final int PROMISES = 30;
    private static final Pattern TEST = Pattern.compile("\\.sentence\\((\\d+),\\s*\"((?:[^\"\\\\]|\\\\.)*)\"\\)");
    private static final Pattern ARGUMENT = Pattern.compile("(?m)(?:^|: )- (`\\w+`: .*)$");
    private static final Pattern ANSWER = Pattern.compile("(?m)^Returns (.*)\\.$");

    private static final Map<Integer, String> PARTS = new TreeMap<>();
    private static final Map<Integer, List<String>> NAMED = new TreeMap<>();

    public static void main(String[] args) throws IOException {
        C.test("the document is there");
        C.holds("there is " + DOC, Files.isReadable(DOC));
        if (!Files.isReadable(DOC)) {
            C.finish();
        }
        readDocument();
        readTests();
        standsInTheDocument();
        for (int promise = 1; promise <= PROMISES; promise++) {
            hasTests(promise);
        }
        termsHaveTests();
        C.finish();
    }

    private static void readDocument() throws IOException {
        String document = Files.readString(DOC);
        PARTS.put(0, document.substring(0, document.indexOf("## Promise 1:")));
        Matcher heads = Pattern.compile("(?m)^## Promise (\\d+): .*$").matcher(document);
        while (heads.find()) {
            int end = document.indexOf("\n## ", heads.end());
            PARTS.put(Integer.parseInt(heads.group(1)), document.substring(heads.end(), end < 0 ? document.length() : end));
        }
    }

    private static void readTests() throws IOException {
        for (int promise = 0; promise <= PROMISES; promise++) {
            NAMED.put(promise, new ArrayList<>());
        }
        try (DirectoryStream<Path> files = Files.newDirectoryStream(TESTS, "*.java")) {
            for (Path file : files) {
                Matcher tests = TEST.matcher(Files.readString(file));
                while (tests.find()) {
                    NAMED.get(Integer.parseInt(tests.group(1))).add(tests.group(2).replace("\\\"", "\""));
                }
            }
        }
    }

    private static void standsInTheDocument() {
        C.test("what a test names stands in the document");
        C.holds("the document has " + PROMISES + " promises", PARTS.size() == PROMISES + 1);
        NAMED.forEach((promise, names) -> names.forEach(
                name -> C.holds(promise + ": " + name, PARTS.getOrDefault(promise, "").contains(name))));
    }

    private static void hasTests(int promise) {
        C.test("promise " + promise + ": arguments and answers have tests");
        String part = PARTS.getOrDefault(promise, "");
        List<String> clauses = new ArrayList<>();
        Matcher arguments = ARGUMENT.matcher(part);
        while (arguments.find()) {
            clauses.add(arguments.group(1));
        }
        Matcher answers = ANSWER.matcher(part);
        while (answers.find()) {
            clauses.addAll(Arrays.asList(answers.group(1).split("; ")));
        }
        C.holds("it has an argument or an answer", promise == 1 || !clauses.isEmpty());
        for (String clause : clauses) {
            C.holds("a test of: " + clause, NAMED.get(promise).contains(clause));
        }
    }

    private static void termsHaveTests() {
        C.test("terms: sentences have tests");
        String part = PARTS.get(0);
        int sentences = 0;
        for (String line : part.substring(part.indexOf("## Terms") + 8).split("\n")) {
            if (line.isBlank() || line.equals(line.toUpperCase()) || line.startsWith("Ahead of the calls")) {
                continue;
            }
            for (String sentence : line.replace("The constants: ", "").split("(?<=\\.|\\.\\)) (?=[A-Z(])")) {
                sentences++;
                C.holds("a test of: " + sentence,
                        NAMED.get(0).stream().anyMatch(name -> sentence.contains(name) || name.contains(sentence)));
            }
        }
        C.holds(sentences + " sentences were found", sentences > 35);
    }
}
