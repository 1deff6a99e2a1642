import java.nio.file.Files;
import java.nio.file.Path;
import java.util.regex.Matcher;
import java.util.regex.Pattern;

/**
 * Rules of LANGUAGE.md that can be seen in the words of the source, and that objects are made in
 * constructors alone. To be run in the project's folder.
 */
public final class LanguageTest {
    private static final String[] REFUSED = {
        "\\bthrow\\b", "\\bthrows\\b", "\\btry\\b", "\\bcatch\\b", "\\bsynchronized\\b",
        "\\bassert\\b", "\\bimport (?!java\\.util\\.(ArrayList|List|Arrays|Iterator);)",
        "\\bpackage\\b", "->", "::", "\\bstatic\\s*\\{",
        "\\bObject\\b", "\\bSystem\\.(?!arraycopy)", "Exact\\b", "\\bprotected\\b",
        "\\bhashCode\\b", "String toString\\b", "\\bvolatile\\b", "\\bThread\\b",
    };

    public static void main(String[] args) throws Exception {
        Due due = new Due("LanguageTest");
        String source = Files.readString(Path.of("src/main/java/SiphonReport.java"));
        String code = source.replaceAll("(?s)/\\*.*?\\*/", "").replaceAll("//[^\\n]*", "");
        for (String words : REFUSED) {
            due.is("places with " + words, count(code, words), 0);
        }
        due.is("signs above 126", count(source, "[^\\n -~]"), 0);
        due.is("static fields that are not final",
            count(code, "\\bstatic (?!final\\b)[\\w\\[\\]]+ \\w+\\s*[=;]"), 0);
        due.is("classes are at most 12", count(code, "\\bclass \\w+") <= 12, true);
        String afterConstructor = code.substring(code.indexOf("public boolean type"));
        due.is("objects made by methods", count(afterConstructor, "\\bnew\\b")
            - count(afterConstructor, "private final [\\w\\[\\]]+ \\w+ = new\\b"), 0);
        due.end();
    }

    private static int count(String text, String words) {
        Matcher m = Pattern.compile(words).matcher(text);
        int found = 0;
        while (m.find()) {
            found++;
        }
        return found;
    }
}
