import java.util.Random;

/**
 * No call throws, for any arguments in any state, and reports change nothing. The seed is fixed.
 */
public final class AnyCallTest {
    private static final String SIGNS = "AABBCCDEFG0234+++>>==;; ";
    private static final int[] EDGES = {Integer.MIN_VALUE, -128, -2, -1, 0, 1, 2, 3, 4, 5, 6, 7, 8,
        9, 10, 34, 35, 36, 127, 128, Integer.MAX_VALUE};

    public static void main(String[] args) {
        Due due = new Due("AnyCallTest");
        Random random = new Random(7);
        for (int i = 0; i < 400; i++) {
            SiphonReport x = new SiphonReport();
            int asked = 0;
            for (int call = 0; call < 512; call++) {
                asked += call(random, x);
            }
            due.is("calls of object " + i, asked, 512);
        }
        reportsChangeNothing(due, random);
        due.end();
    }

    private static int call(Random random, SiphonReport x) {
        int a = EDGES[random.nextInt(EDGES.length)];
        int b = EDGES[random.nextInt(EDGES.length)];
        switch (random.nextInt(40)) {
            case 0: x.clear(); break;
            case 1: case 2: case 3: case 4: x.read(); break;
            case 5: x.type((char) random.nextInt(65536)); break;
            case 6: Due.retype(x, "A+2B=C;D>E"); break;
            case 7: case 8: case 9: case 10: report(x, a, b); break;
            default: x.type(SIGNS.charAt(random.nextInt(SIGNS.length())));
        }
        return 1;
    }

    private static long report(SiphonReport x, int a, int b) {
        return x.reactions() + 3L * x.complexes() + 5L * x.coefficient(a, b) + 7L * x.occurring()
            + 11L * x.linkage() + 13L * x.classOf(a) + 17L * x.strong()
            + (x.terminal(a) ? 19L : 0L) + 23L * x.rank() + 29L * x.deficiency(a)
            + 31L * x.siphons() + 37L * x.siphon(a) + (x.conserved(a) ? 41L : 0L)
            + 43L * x.sums() + 47L * x.support(a) + 53L * x.weight(a, b) + 59L * x.flags();
    }

    private static void reportsChangeNothing(Due due, Random random) {
        SiphonReport x = Due.network("A+2B=C;C>3D;D=0");
        for (int i = 0; i < 12; i++) {
            int a = EDGES[random.nextInt(EDGES.length)];
            int b = EDGES[random.nextInt(EDGES.length)];
            long fresh = report(Due.network("A+2B=C;C>3D;D=0"), a, b);
            due.is("reports for " + a + " and " + b, report(x, a, b), fresh);
            due.is("the same again", report(x, a, b), fresh);
        }
        due.is("read() after reports", x.read(), 5);
    }
}
