import java.io.IOException;
import java.lang.reflect.Field;
import java.lang.reflect.Method;
import java.lang.reflect.Modifier;
import java.nio.file.Files;
import java.nio.file.Path;
import java.util.regex.Matcher;
import java.util.regex.Pattern;

/** README.md: its examples answer what it says, and it names every call, constant and test. */
public final class ReadmeTest {
    private static final Checks C = new Checks();
    private static final Path README = Path.of("README.md");
    private static final Path DOC = Path.of("../shared/DOC.md");
    private static final Path TESTS = Path.of("src/test/java");
    private static final Pattern EXAMPLE = Pattern.compile("(?s)```java\n(.*?)```");
    private static final Pattern CALL =
            Pattern.compile("x\\.(\\w+)\\(([-\\d, ]*)\\);\\s+// (-?\\d+): (?:([A-Z_]+)\\b)?.*");
    private static final Pattern TYPING =
            Pattern.compile("for \\(char c : \"(.*)\"\\.toCharArray\\(\\)\\) x\\.type\\(c\\);");
    private static final String NEW_OBJECT = "DrillWardens x = new DrillWardens();";

    public static void main(String[] args) throws IOException, ReflectiveOperationException {
        String readme = Files.readString(README);
        examples(readme);
        calls(readme);
        constants(readme);
        tests(readme);
        C.finish();
    }

    private static void examples(String readme) throws ReflectiveOperationException {
        Matcher examples = EXAMPLE.matcher(readme);
        int many = 0;
        while (examples.find()) {
            many++;
            C.test("README.md, example " + many);
            DrillWardens x = null;
            for (String line : examples.group(1).split("\n")) {
                x = line.equals(NEW_OBJECT) ? new DrillWardens() : carriedOut(x, line);
            }
        }
        C.test("README.md has examples");
        C.holds(many + " examples", many >= 3);
    }

    private static DrillWardens carriedOut(DrillWardens x, String line) throws ReflectiveOperationException {
        Matcher call = CALL.matcher(line);
        Matcher typing = TYPING.matcher(line);
        if (x != null && call.matches()) {
            C.due(line, answer(x, call.group(1), call.group(2)), Integer.parseInt(call.group(3)));
            if (call.group(4) != null) {
                C.due(line, DrillWardens.class.getField(call.group(4)).getInt(null), Integer.parseInt(call.group(3)));
            }
        } else if (x != null && typing.matches()) {
            for (char c : typing.group(1).toCharArray()) {
                x.type(c);
            }
        } else {
            C.holds("a line of the form of the others: " + line, false);
        }
        return x;
    }

    private static int answer(DrillWardens x, String name, String told) throws ReflectiveOperationException {
        String[] parts = told.isEmpty() ? new String[0] : told.split(", ");
        Object[] arguments = new Object[parts.length];
        Class<?>[] types = new Class<?>[parts.length];
        for (int i = 0; i < parts.length; i++) {
            arguments[i] = Integer.parseInt(parts[i]);
            types[i] = int.class;
        }
        return (Integer) DrillWardens.class.getMethod(name, types).invoke(x, arguments);
    }

    private static void calls(String readme) throws IOException {
        C.test("README.md has a row for every call of the document");
        Matcher face = Pattern.compile("public int (\\w+)\\(([^)]*)\\);").matcher(Files.readString(DOC));
        int many = 0;
        while (face.find()) {
            many++;
            String call = face.group(1) + "(" + face.group(2).replaceAll("(?:int|char) ", "") + ")";
            C.holds("a row for " + call, readme.contains("\n| `" + call + "` | "));
        }
        C.due("calls of the document", many, publicMethods());
    }

    private static int publicMethods() {
        int many = 0;
        for (Method method : DrillWardens.class.getDeclaredMethods()) {
            many += Modifier.isPublic(method.getModifiers()) ? 1 : 0;
        }
        return many;
    }

    private static void constants(String readme) throws ReflectiveOperationException {
        C.test("README.md has every constant");
        for (Field field : DrillWardens.class.getFields()) {
            String row = "\n| `" + field.getName() + " = " + field.getInt(null) + "` | ";
            C.holds("a row for " + field.getName(), readme.contains(row));
        }
    }

    private static void tests(String readme) throws IOException {
        C.test("README.md has every test, and says how they are run");
        try (var files = Files.newDirectoryStream(TESTS, "*Test.java")) {
            for (Path file : files) {
                String name = file.getFileName().toString().replace(".java", "");
                C.holds("a row for " + name, readme.contains("\n| `" + name + "` | "));
            }
        }
        C.holds("how the tests are run", readme.contains("\n    .ci/run\n"));
    }
}
