import java.lang.reflect.Array;
import java.lang.reflect.Field;
import java.lang.reflect.Method;
import java.lang.reflect.Modifier;
import java.nio.file.Files;
import java.nio.file.Path;
import java.util.Collections;
import java.util.HashSet;
import java.util.IdentityHashMap;
import java.util.Set;
import java.util.regex.Matcher;
import java.util.regex.Pattern;

/**
 * Rules of LANGUAGE.md that can be seen in the words of the source or in the compiled classes, and
 * that objects are made in constructors alone. To be run in the project's folder.
 */
public final class LanguageTest {
    private static final String[] REFUSED = {
        "\\bthrow\\b", "\\bthrows\\b", "\\btry\\b", "\\bcatch\\b", "\\bsynchronized\\b",
        "\\bassert\\b", "\\bimport (?!java\\.util\\.(ArrayList|List|Arrays|Iterator);)",
        "\\bpackage\\b", "->", "::", "\\bstatic\\s*\\{",
        "\\bObject\\b", "\\bSystem\\.(?!arraycopy)", "Exact\\b", "\\bprotected\\b",
        "\\bhashCode\\b", "String toString\\b", "\\bvolatile\\b", "\\bThread\\b",
    };

    // A method's head, then sixty or more lines that are not its closing brace at the same margin.
    private static final String LONG_METHOD =
        "(?m)^( +)\\w[^\\n=;]*\\) \\{\\n(?:(?!\\1\\}\\n)[^\\n]*\\n){60}";

    public static void main(String[] args) throws Exception {
        Due due = new Due("LanguageTest");
        String source = Files.readString(Path.of("src/main/java/SiphonReport.java"));
        String code = source.replaceAll("(?s)/\\*.*?\\*/", "").replaceAll("//[^\\n]*", "");
        for (String words : REFUSED) {
            due.is("places with " + words, count(code, words), 0);
        }
        due.is("signs above 126", count(source, "[^\\n -~]"), 0);
        due.is("static fields that are not final",
            count(code, "\\bstatic (?!final\\b)[\\w\\[\\]]+ \\w+\\s*[=;]"), 0);
        due.is("classes are at most 12", count(code, "\\bclass \\w+") <= 12, true);
        String afterConstructor = code.substring(code.indexOf("public boolean type"));
        due.is("objects made by methods", count(afterConstructor, "\\bnew\\b")
            - count(afterConstructor, "private final [\\w\\[\\]]+ \\w+ = new\\b"), 0);
        due.is("methods above 60 lines", count(code, LONG_METHOD), 0);
        classes(due);
        room(due);
        due.end();
    }

    private static void classes(Due due) {
        Set<String> face = new HashSet<>();
        for (Method m : SiphonReport.class.getMethods()) {
            face.add(m.getName());
        }
        members(due, SiphonReport.class, face);
        for (Class<?> c : SiphonReport.class.getDeclaredClasses()) {
            due.is(c.getName() + " is static", Modifier.isStatic(c.getModifiers()), true);
            due.is(c.getName() + " is public or protected",
                Modifier.isPublic(c.getModifiers()) || Modifier.isProtected(c.getModifiers()),
                false);
            members(due, c, face);
        }
    }

    private static void members(Due due, Class<?> c, Set<String> face) {
        int fields = 0;
        for (Field f : c.getDeclaredFields()) {
            boolean isStatic = Modifier.isStatic(f.getModifiers());
            fields += isStatic ? 0 : 1;
            due.is(f + " is static and not final",
                isStatic && !Modifier.isFinal(f.getModifiers()), false);
        }
        due.is(c.getName() + " has at most 20 fields", fields <= 20, true);
        for (Method m : c.getDeclaredMethods()) {
            boolean ofFace = c == SiphonReport.class && Modifier.isPublic(m.getModifiers());
            due.is(m + " bears a public name", !ofFace && face.contains(m.getName()), false);
            due.is(m + " takes at most 7", m.getParameterCount() <= 7, true);
        }
    }

    /** An object with all that it holds is small, and its calls leave it as large as it was. */
    private static void room(Due due) throws IllegalAccessException {
        SiphonReport x = new SiphonReport();
        Room before = new Room();
        before.add(x);
        due.is("objects and arrays of a new object: " + before.objects,
            before.objects <= 300, true);
        due.is("fields and elements of a new object: " + before.cells, before.cells <= 3000, true);
        Due.readAnew(x, "4A+3B=2C+D;D=E;E=F;F=G;G=2G");
        Room after = new Room();
        after.add(x);
        due.is("objects and arrays after a read", after.objects, before.objects);
        due.is("fields and elements after a read", after.cells, before.cells);
    }

    /** Counts what can be reached from an object, each thing once. */
    private static final class Room {
        private final Set<Object> seen = Collections.newSetFromMap(new IdentityHashMap<>());
        private int objects;
        private int cells;

        void add(Object x) throws IllegalAccessException {
            if (x == null || !seen.add(x)) {
                return;
            }
            objects++;
            if (x.getClass().isArray()) {
                addElements(x);
            } else {
                addFields(x);
            }
        }

        private void addElements(Object array) throws IllegalAccessException {
            cells += Array.getLength(array);
            if (array instanceof Object[] parts) {
                for (Object part : parts) {
                    add(part);
                }
            }
        }

        private void addFields(Object x) throws IllegalAccessException {
            for (Field f : x.getClass().getDeclaredFields()) {
                if (!Modifier.isStatic(f.getModifiers())) {
                    cells++;
                    if (!f.getType().isPrimitive()) {
                        f.setAccessible(true);
                        add(f.get(x));
                    }
                }
            }
        }
    }

    private static int count(String text, String words) {
        Matcher m = Pattern.compile(words).matcher(text);
        int found = 0;
        while (m.find()) {
            found++;
        }
        return found;
    }
}
