/** "What it is": an object is used for at most 512 calls, so the last of them must still hold. */
public final class EdgeCallsTest {
    private static final int CALLS = 512;
    private static final String TEXT = "A=B;C>4G";

    public static void main(String[] args) {
        Due due = new Due("EdgeCallsTest");
        lastCallTypes(due);
        lastCallReads(due);
        everyCallReads(due);
        lastCallReports(due);
        laterCallsEnd(due);
        due.end();
    }

    private static void lastCallTypes(Due due) {
        due.sentence("At most 512 calls: type as every one of them");
        SiphonReport x = new SiphonReport();
        for (int call = 1; call <= CALLS; call++) {
            due.is("type as call " + call, x.type('A'), call <= 100);
        }
        due.sentence("At most 512 calls: type after a clear as the last one");
        SiphonReport y = new SiphonReport();
        for (int call = 1; call < CALLS - 1; call++) {
            y.type('A');
        }
        y.clear();
        due.is("type as the last call", y.type('A'), true);
    }

    private static void lastCallReads(Due due) {
        due.sentence("At most 512 calls: read as the last one");
        SiphonReport x = new SiphonReport();
        for (int round = 0; round < 5; round++) {
            Due.retype(x, "?".repeat(100));
        }
        Due.retype(x, "2A=3B");
        due.is("read() as call 5 * 101 + 6 + 1", x.read(), 2);
    }

    private static void everyCallReads(Due due) {
        due.sentence("At most 512 calls: read as every one of them");
        SiphonReport x = Due.typed(TEXT);
        for (int call = TEXT.length() + 1; call <= CALLS; call++) {
            due.is("read() as call " + call, x.read(), 3);
        }
        SiphonReport y = new SiphonReport();
        for (int call = 1; call <= CALLS; call++) {
            due.is("read() of nothing as call " + call, y.read(), 0);
        }
    }

    private static void lastCallReports(Due due) {
        due.sentence("At most 512 calls: each report as the last one");
        due.is("reactions()", used().reactions(), 3);
        due.is("complexes()", used().complexes(), 4);
        due.is("coefficient(3, 6)", used().coefficient(3, 6), 4);
        due.is("occurring()", used().occurring(), 64 + 7);
        due.is("linkage()", used().linkage(), 2);
        due.is("classOf(3)", used().classOf(3), 1);
        due.is("strong()", used().strong(), 3);
        due.is("terminal(3)", used().terminal(3), true);
        due.is("rank()", used().rank(), 2);
        due.is("deficiency(-1)", used().deficiency(-1), 0);
        due.is("siphons()", used().siphons(), 2);
        due.is("siphon(1)", used().siphon(1), 4);
        due.is("conserved(0)", used().conserved(0), true);
        due.is("sums()", used().sums(), 2);
        due.is("support(1)", used().support(1), 68);
        due.is("weight(1, 2)", used().weight(1, 2), 4);
        due.is("flags()", used().flags(), 4 + 16);
    }

    /** An object that has read TEXT and has one call left. */
    private static SiphonReport used() {
        SiphonReport x = Due.network(TEXT);
        for (int call = TEXT.length() + 2; call < CALLS; call++) {
            x.siphons();
        }
        return x;
    }

    /** What later calls answer is free, but rule 7 of LANGUAGE.md lets none of them throw. */
    private static void laterCallsEnd(Due due) {
        due.sentence("Nothing is promised about an object after its 512th call");
        SiphonReport x = used();
        String[] texts = {"", "?", "9A>B", "A+B=C;C>2D", "A=B;A=C;A=D;A=E;A=F;A=G",
            "A".repeat(120)};
        for (int round = 0; round < 60; round++) {
            Due.readAnew(x, texts[round % texts.length]);
            Due.reports(x);
        }
        due.is("later calls end", true, true);
    }
}
