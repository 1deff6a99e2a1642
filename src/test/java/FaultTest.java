/** Promise 4: the faults of the lines of a right text, and their order. */
public final class FaultTest {
    private static final String FOUR_LINES = "A>B;C>D;E>F;G>0";
    private static final String TEN_REACTIONS = "A=B;A=C;A=D;A=E;A=F";

    public static void main(String[] args) {
        Due due = new Due("FaultTest");
        high(due);
        same(due);
        complexes(due);
        reactions(due);
        order(due);
        faultKeepsNetwork(due);
        due.end();
    }

    private static void high(Due due) {
        due.is("4A>B", Due.readOf("4A>B"), 1);
        due.is("5A>B", Due.readOf("5A>B"), SiphonReport.HIGH);
        due.is("B>5G", Due.readOf("B>5G"), SiphonReport.HIGH);
        due.is("9A>9A", Due.readOf("9A>9A"), SiphonReport.HIGH);
        due.is("2A+B+2A>B", Due.readOf("2A+B+2A>B"), 1);
        due.is("2A+B+2A+A>B", Due.readOf("2A+B+2A+A>B"), SiphonReport.HIGH);
        due.is("0>B+B+B+B", Due.readOf("0>B+B+B+B"), 1);
        due.is("0>B+B+B+B+B", Due.readOf("0>B+B+B+B+B"), SiphonReport.HIGH);
        due.is("4A+4B+4C+4D+4E+4F+4G>0", Due.readOf("4A+4B+4C+4D+4E+4F+4G>0"), 1);
    }

    private static void same(Due due) {
        due.is("A>A", Due.readOf("A>A"), SiphonReport.SAME);
        due.is("0=0", Due.readOf("0=0"), SiphonReport.SAME);
        due.is("A+B>B+A", Due.readOf("A+B>B+A"), SiphonReport.SAME);
        due.is("2A>A+A", Due.readOf("2A>A+A"), SiphonReport.SAME);
        due.is("2A>A", Due.readOf("2A>A"), 1);
        due.is("A+B>A+C", Due.readOf("A+B>A+C"), 1);
    }

    private static void complexes(Due due) {
        due.is("8 complexes", Due.readOf(FOUR_LINES), 4);
        due.is("9 complexes", Due.readOf(FOUR_LINES + ";A>2A"), 5);
        due.is("10 in one line", Due.readOf(FOUR_LINES + ";2A>2B"), SiphonReport.COMPLEXES);
        due.is("10 in two lines", Due.readOf(FOUR_LINES + ";A>2A;2B>A"), SiphonReport.COMPLEXES);
        due.is("9 again", Due.readOf(FOUR_LINES + ";A>2A;2A>0;B>G;A+A>F"), 8);
    }

    private static void reactions(Due due) {
        due.is("10 reactions", Due.readOf(TEN_REACTIONS), 10);
        due.is("11 reactions", Due.readOf(TEN_REACTIONS + ";B>C"), SiphonReport.REACTIONS);
        due.is("12 reactions", Due.readOf(TEN_REACTIONS + ";B=C"), SiphonReport.REACTIONS);
        due.is("10 and the same ones", Due.readOf(TEN_REACTIONS + ";B>A;A>B;A=B;B=A"), 10);
        due.is("9 and two", Due.readOf("A=B;A=C;A=D;A=E;A>F;C=D"), SiphonReport.REACTIONS);
        due.is("9 and the way back", Due.readOf("A=B;A=C;A=D;A=E;A>F;A=F"), 10);
        due.is("the same one twice", Due.readOf("A>B;A>B"), 1);
        due.is("the same ones turned", Due.readOf("A=B;B=A;B>A"), 2);
        due.is("the same one said otherwise", Due.readOf("A+B>2C;B+A>C+C"), 1);
    }

    private static void order(Due due) {
        due.is("HIGH before SAME", Due.readOf("5A>5A"), SiphonReport.HIGH);
        due.is("SAME in an earlier line", Due.readOf("A>A;5A>B"), SiphonReport.SAME);
        due.is("HIGH in an earlier line", Due.readOf("5A>B;A>A"), SiphonReport.HIGH);
        due.is("HIGH before COMPLEXES", Due.readOf(FOUR_LINES + ";2A>5B"), SiphonReport.HIGH);
        due.is("SAME before COMPLEXES", Due.readOf(FOUR_LINES + ";A>2A;2B>2B"),
            SiphonReport.SAME);
        String nine = "A=B;A=C;A=D;A=E;A>F;A>G;A>2A";
        due.is("REACTIONS and no COMPLEXES", Due.readOf(nine + ";A>2B"), SiphonReport.REACTIONS);
        String full = "A=B;A=C;A=D;A=E;F>G;F>2A";
        due.is("10 reactions, 8 complexes", Due.readOf(full), 10);
        due.is("COMPLEXES before REACTIONS", Due.readOf(full + ";2B>2C"),
            SiphonReport.COMPLEXES);
        due.is("REACTIONS with 9 complexes", Due.readOf(full + ";2B>A"), SiphonReport.REACTIONS);
        due.is("HIGH before REACTIONS", Due.readOf(full + ";B>5C"), SiphonReport.HIGH);
        due.is("SAME before REACTIONS", Due.readOf(full + ";B>B"), SiphonReport.SAME);
        due.is("a wrong form before all faults", Due.readOf("5A>B;A>A;"), -10);
        due.is("a wrong form far behind", Due.readOf("A>A;B>C D"), -9);
    }

    private static void faultKeepsNetwork(Due due) {
        String[] bad = {"A>", "5A>B", "A>B;A>A", FOUR_LINES + ";2A>2B", TEN_REACTIONS + ";B>C"};
        SiphonReport x = Due.network("2A=B;C>D");
        for (String text : bad) {
            Due.retype(x, text);
            due.is("read() of [" + text + "] is below 0", x.read() < 0, true);
            due.is("reactions()", x.reactions(), 3);
            due.is("complexes()", x.complexes(), 4);
            due.is("coefficient(0, 0)", x.coefficient(0, 0), 2);
            due.is("occurring()", x.occurring(), 15);
            due.is("linkage()", x.linkage(), 2);
            due.is("strong()", x.strong(), 3);
            due.is("rank()", x.rank(), 2);
            due.is("siphons()", x.siphons(), 2);
            due.is("siphon(1)", x.siphon(1), 4);
            due.is("weight(0, 1)", x.weight(0, 1), 2);
            due.is("support(1)", x.support(1), 12);
            due.is("flags()", x.flags(), 4 + 16);
        }
    }
}
