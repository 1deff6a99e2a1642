import java.io.IOException;
import java.lang.reflect.Method;
import java.lang.reflect.Modifier;
import java.nio.file.DirectoryStream;
import java.nio.file.Files;
import java.nio.file.Path;
import java.util.regex.Matcher;
import java.util.regex.Pattern;

/** What README.md says of calls, answers and tests is so. To be run in the project's folder. */
public final class ReadmeTest {
    private static final Path TESTS = Path.of("src/test/java");

    public static void main(String[] args) throws Exception {
        Due due = new Due("ReadmeTest");
        String readme = Files.readString(Path.of("README.md"));
        example(due, readme);
        textsOfOneNetwork(due);
        refusedTexts(due, readme);
        callsAreNamed(due, readme);
        answersForNone(due, readme);
        testsAreNamed(due, readme);
        due.end();
    }

    /** Each line "x.call(..); // answer" of the example, in their order, on one object. */
    private static void example(Due due, String readme) throws Exception {
        Matcher typed = Pattern.compile("for \\(char c : \"([^\"]*)\"").matcher(readme);
        due.is("the example has a text", typed.find(), true);
        SiphonReport x = Due.typed(typed.group(1));
        Matcher line = Pattern.compile("(?m)^x\\.(\\w+)\\(([-\\d, ]*)\\); +// (-?\\w+)")
            .matcher(readme);
        int lines = 0;
        while (line.find()) {
            due.is("the example's x." + line.group(1) + "(" + line.group(2) + ")",
                String.valueOf(call(x, line.group(1), line.group(2))), line.group(3));
            lines++;
        }
        due.is("the example asks for something", lines > 5, true);
        due.is("the example's conserved(1)", x.conserved(1), false);
    }

    private static Object call(SiphonReport x, String name, String numbers) throws Exception {
        String[] parts = numbers.isEmpty() ? new String[0] : numbers.split(", *");
        Object[] given = new Object[parts.length];
        for (int i = 0; i < parts.length; i++) {
            given[i] = Integer.valueOf(parts[i]);
        }
        return methodNamed(name).invoke(x, given);
    }

    private static Method methodNamed(String name) {
        for (Method m : SiphonReport.class.getDeclaredMethods()) {
            if (Modifier.isPublic(m.getModifiers()) && m.getName().equals(name)) {
                return m;
            }
        }
        throw new IllegalStateException("README.md names a call that is not there: " + name);
    }

    private static void textsOfOneNetwork(Due due) {
        due.is("0>A;A>0 is the same as 0=A", Due.reports(Due.network("0>A;A>0")),
            Due.reports(Due.network("0=A")));
        due.is("2A > A + A + B is 2A>2A+B", Due.reports(Due.network("2A > A + A + B")),
            Due.reports(Due.network("2A>2A+B")));
    }

    /** The rows "| answer | `text` | why |". */
    private static void refusedTexts(Due due, String readme) {
        Matcher row = Pattern.compile("(?m)^\\| (?:`[A-Z]+`, )?(-\\d+) \\| `([^`]*)` \\|")
            .matcher(readme);
        int rows = 0;
        while (row.find()) {
            due.reads(row.group(2), Integer.parseInt(row.group(1)));
            rows++;
        }
        due.is("rows of texts that are refused", rows, 6);
    }

    private static void callsAreNamed(Due due, String readme) {
        for (Method m : SiphonReport.class.getDeclaredMethods()) {
            if (Modifier.isPublic(m.getModifiers())) {
                due.is("README.md names " + m.getName(),
                    readme.contains("`" + m.getName() + "("), true);
            }
        }
    }

    /** The rows "| `call(..)` | answer | answer if there is none |", on a new object. */
    private static void answersForNone(Due due, String readme) throws Exception {
        Matcher row = Pattern.compile("(?m)^\\| `(\\w+)\\((\\w[\\w, ]*)\\)` \\|.*\\| (\\S+) \\|$")
            .matcher(readme);
        int rows = 0;
        while (row.find()) {
            String zeros = row.group(2).replaceAll("\\w+", "0");
            due.is(row.group(1) + " when there is none",
                String.valueOf(call(new SiphonReport(), row.group(1), zeros)), row.group(3));
            rows++;
        }
        due.is("rows with an answer for none", rows, 8);
    }

    private static void testsAreNamed(Due due, String readme) throws IOException {
        due.is("README.md says how to run the tests", readme.contains("\n    .ci/run\n"), true);
        due.is(".ci/run can be run", Files.isExecutable(Path.of(".ci/run")), true);
        try (DirectoryStream<Path> files = Files.newDirectoryStream(TESTS, "*Test.java")) {
            for (Path file : files) {
                String name = file.getFileName().toString().replace(".java", "");
                due.is("README.md names " + name, readme.contains("\n| " + name + " |"), true);
            }
        }
        Matcher row = Pattern.compile("(?m)^\\| (\\w+Test) \\|").matcher(readme);
        while (row.find()) {
            due.is(row.group(1) + " is there",
                Files.exists(TESTS.resolve(row.group(1) + ".java")), true);
        }
    }
}
