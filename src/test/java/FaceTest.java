import java.lang.reflect.Constructor;
import java.lang.reflect.Field;
import java.lang.reflect.Method;
import java.lang.reflect.Modifier;
import java.util.Set;
import java.util.TreeSet;

/** The public face, the constants, and promise 1: a new object. */
public final class FaceTest {
    private static final String FACE = "type(char)boolean clear()void read()int reactions()int"
        + " complexes()int coefficient(int,int)int occurring()int linkage()int classOf(int)int"
        + " strong()int terminal(int)boolean rank()int deficiency(int)int siphons()int"
        + " siphon(int)int conserved(int)boolean sums()int support(int)int weight(int,int)int"
        + " flags()int";

    public static void main(String[] args) {
        Due due = new Due("FaceTest");
        constants(due);
        face(due);
        newObject(due);
        objectsAreApart(due);
        due.end();
    }

    private static void constants(Due due) {
        due.is("HIGH", SiphonReport.HIGH, -200);
        due.is("SAME", SiphonReport.SAME, -201);
        due.is("COMPLEXES", SiphonReport.COMPLEXES, -202);
        due.is("REACTIONS", SiphonReport.REACTIONS, -203);
    }

    private static void face(Due due) {
        Class<?> c = SiphonReport.class;
        due.is("class is public and final", Modifier.isPublic(c.getModifiers())
            && Modifier.isFinal(c.getModifiers()), true);
        Set<String> shown = new TreeSet<>();
        for (Method m : c.getDeclaredMethods()) {
            if (!Modifier.isPrivate(m.getModifiers())) {
                shown.add(told(m));
            }
        }
        due.is("methods " + shown, shown.equals(new TreeSet<>(Set.of(FACE.split(" ")))), true);
        Set<String> fields = new TreeSet<>();
        for (Field f : c.getDeclaredFields()) {
            if (!Modifier.isPrivate(f.getModifiers())) {
                fields.add(f.getName());
            }
        }
        due.is("fields " + fields,
            fields.equals(Set.of("HIGH", "SAME", "COMPLEXES", "REACTIONS")), true);
        Constructor<?>[] made = c.getDeclaredConstructors();
        due.is("constructors", made.length, 1);
        due.is("constructor's parameters", made[0].getParameterCount(), 0);
    }

    private static String told(Method m) {
        StringBuilder b = new StringBuilder(m.getName()).append('(');
        for (Class<?> p : m.getParameterTypes()) {
            b.append(b.charAt(b.length() - 1) == '(' ? "" : ",").append(p.getName());
        }
        return b.append(')').append(m.getReturnType().getName()).toString();
    }

    private static void newObject(Due due) {
        emptyNetwork(due, new SiphonReport());
        SiphonReport x = new SiphonReport();
        due.is("read() of a new object", x.read(), 0);
        emptyNetwork(due, x);
        SiphonReport y = new SiphonReport();
        int taken = 0;
        for (int i = 0; i < 101; i++) {
            taken += y.type('A') ? 1 : 0;
        }
        due.is("signs that a new object takes", taken, 100);
    }

    private static void emptyNetwork(Due due, SiphonReport x) {
        due.is("reactions()", x.reactions(), 0);
        due.is("complexes()", x.complexes(), 0);
        due.is("coefficient(0, 0)", x.coefficient(0, 0), -1);
        due.is("occurring()", x.occurring(), 0);
        due.is("linkage()", x.linkage(), 0);
        due.is("classOf(0)", x.classOf(0), -1);
        due.is("strong()", x.strong(), 0);
        due.is("terminal(0)", x.terminal(0), false);
        due.is("rank()", x.rank(), 0);
        due.is("deficiency(-1)", x.deficiency(-1), 0);
        due.is("deficiency(0)", x.deficiency(0), -1);
        due.is("siphons()", x.siphons(), 0);
        due.is("siphon(0)", x.siphon(0), 0);
        due.is("conserved(0)", x.conserved(0), false);
        due.is("sums()", x.sums(), 0);
        due.is("support(0)", x.support(0), 0);
        due.is("weight(0, 0)", x.weight(0, 0), -1);
        due.is("flags()", x.flags(), 31);
    }

    private static void objectsAreApart(Due due) {
        SiphonReport x = Due.network("A>B");
        SiphonReport y = new SiphonReport();
        due.is("reactions() of another object", y.reactions(), 0);
        due.is("read() of another object", y.read(), 0);
        due.is("reactions() of the first", x.reactions(), 1);
    }
}
