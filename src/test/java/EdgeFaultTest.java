/** Promise 4: each fault just inside and just outside, their order, and what a fault leaves. */
public final class EdgeFaultTest {
    private static final int HIGH = SiphonReport.HIGH;
    private static final int SAME = SiphonReport.SAME;
    private static final int COMPLEXES = SiphonReport.COMPLEXES;
    private static final int REACTIONS = SiphonReport.REACTIONS;
    private static final String EIGHT_COMPLEXES = "A>B;C>D;E>F;G>0";
    private static final String NINE_COMPLEXES = "A>B;C>D;E>F;G>0;A>2A";
    private static final String NINE_REACTIONS = "A=B;A=C;A=D;A=E;A>F";
    private static final String TEN_REACTIONS = "A=B;A=C;A=D;A=E;A=F";
    /** Nine complexes and ten reactions. */
    private static final String FULL = "A=B;A=C;A>D;A>E;A>F;A>G;A>0;A>2A";

    public static void main(String[] args) {
        Due due = new Due("EdgeFaultTest");
        high(due);
        same(due);
        complexes(due);
        reactions(due);
        order(due);
        firstLine(due);
        numberOfReactions(due);
        networkStays(due);
        due.end();
    }

    private static void high(Due due) {
        due.sentence("HIGH, when a number of its left or right side's complex is above 4");
        for (char c = 'A'; c <= 'G'; c++) {
            for (int digit = 1; digit <= 9; digit++) {
                String term = "" + digit + c;
                due.reads(term + ">0", digit <= 4 ? 1 : HIGH);
                due.reads("0=" + term, digit <= 4 ? 2 : HIGH);
            }
            due.reads("0>3x+x".replace('x', c), 1);
            due.reads("0>3x+2x".replace('x', c), HIGH);
            due.reads("x+x+x+x>0".replace('x', c), 1);
            due.reads("x+x+x+x+x>0".replace('x', c), HIGH);
        }
        due.reads("4A+4B+4C+4D+4E+4F+4G>0", 1);
        due.reads("4A+4B+4C+4D+4E+4F+5G>0", HIGH);
        due.reads("4A>4B", 1);
        due.reads("3A>2A", 1);
        due.reads("9A+".repeat(32) + "9A>B", HIGH);
        due.reads("B>" + "9A+".repeat(32) + "9A", HIGH);
    }

    private static void same(Due due) {
        due.sentence("SAME, when its sides say the same complex");
        due.reads("A>A", SAME);
        due.reads("A=A", SAME);
        due.reads("0>0", SAME);
        due.reads("0=0", SAME);
        due.reads("4G>G+3G", SAME);
        due.reads("A+B+C>C+A+B", SAME);
        due.reads("A>B;B>B", SAME);
        due.reads("A>2A", 1);
        due.reads("A+B>A", 1);
        due.reads("A>A+G", 1);
        due.reads("A>0", 1);
        due.reads("A>B;A>B", 1);
        due.reads("A>B;B>A", 2);
    }

    private static void complexes(Due due) {
        due.sentence("COMPLEXES, when with this line there are more than 9 complexes");
        due.reads(EIGHT_COMPLEXES, 4);
        due.reads(EIGHT_COMPLEXES + ";2A>A", 5);
        due.reads(EIGHT_COMPLEXES + ";A=2A", 6);
        due.reads(EIGHT_COMPLEXES + ";2A>2B", COMPLEXES);
        due.reads(EIGHT_COMPLEXES + ";2A=2B", COMPLEXES);
        due.reads(NINE_COMPLEXES, 5);
        due.reads(NINE_COMPLEXES + ";2A>0;A+A>G;F>E", 8);
        due.reads(NINE_COMPLEXES + ";2B>A", COMPLEXES);
        due.reads(NINE_COMPLEXES + ";A>2B", COMPLEXES);
        due.reads(NINE_COMPLEXES + ";2B>2C", COMPLEXES);
        due.is("complexes()", Due.network(NINE_COMPLEXES).complexes(), 9);
        due.is("complexes() of FULL", Due.network(FULL).complexes(), 9);
    }

    private static void reactions(Due due) {
        due.sentence("REACTIONS, when with this line there are more than 10 reactions");
        due.reads(NINE_REACTIONS, 9);
        due.reads(NINE_REACTIONS + ";B>C", 10);
        due.reads(NINE_REACTIONS + ";F=A", 10);
        due.reads(NINE_REACTIONS + ";B=C", REACTIONS);
        due.reads(TEN_REACTIONS, 10);
        due.reads(TEN_REACTIONS + ";B>C", REACTIONS);
        due.reads(TEN_REACTIONS + ";C=B", REACTIONS);
        due.reads(TEN_REACTIONS + ";A>B;B=A;F>A", 10);
        due.reads(FULL + ";A=B", 10);
        due.reads(FULL + ";A=D", REACTIONS);
        due.reads(FULL + ";D=A", REACTIONS);
        due.is("reactions()", Due.network(TEN_REACTIONS).reactions(), 10);
        due.is("reactions() of FULL", Due.network(FULL).reactions(), 10);
    }

    private static void order(Due due) {
        due.sentence("Of a line's faults the first in this order: HIGH before SAME");
        due.reads("5A>5A", HIGH);
        due.reads("3A+2A=4A+A", HIGH);
        due.reads(FULL + ";5A>5A", HIGH);
        due.sentence("Of a line's faults the first in this order: HIGH before COMPLEXES");
        due.reads(NINE_COMPLEXES + ";5A>B", HIGH);
        due.reads(NINE_COMPLEXES + ";3A>5B", HIGH);
        due.sentence("Of a line's faults the first in this order: HIGH before REACTIONS");
        due.reads(TEN_REACTIONS + ";B>5C", HIGH);
        due.reads(FULL + ";5C=B", HIGH);
        due.sentence("Of a line's faults the first in this order: SAME before COMPLEXES");
        due.reads(NINE_COMPLEXES + ";3A>3A", SAME);
        due.reads(FULL + ";3A=3A", SAME);
        due.sentence("Of a line's faults the first in this order: SAME before REACTIONS");
        due.reads(TEN_REACTIONS + ";B>B", SAME);
        due.reads(FULL + ";0=0", SAME);
        due.sentence("Of a line's faults the first in this order: COMPLEXES before REACTIONS");
        due.reads(FULL + ";3A>B", COMPLEXES);
        due.reads(FULL + ";B>3A", COMPLEXES);
        due.reads(FULL + ";3A=3B", COMPLEXES);
        due.reads(FULL + ";B>C", REACTIONS);
    }

    private static void firstLine(Due due) {
        due.sentence("The first line with a fault decides: HIGH");
        due.reads("A>5B;A>A", HIGH);
        due.reads("A>5B;" + FULL + ";3A>B", HIGH);
        due.reads("A>5B;" + FULL + ";B>C", HIGH);
        due.sentence("The first line with a fault decides: SAME");
        due.reads("A>A;A>5B", SAME);
        due.reads("A>A;" + FULL + ";3A>B", SAME);
        due.reads("A>A;" + FULL + ";B>C", SAME);
        due.sentence("The first line with a fault decides: COMPLEXES");
        due.reads(NINE_COMPLEXES + ";3A>B;5A>B", COMPLEXES);
        due.reads(NINE_COMPLEXES + ";3A>B;A>A", COMPLEXES);
        due.reads(NINE_COMPLEXES + ";3A>B;A=C;A=D;A=E;A=F;A=G", COMPLEXES);
        due.sentence("The first line with a fault decides: REACTIONS");
        due.reads(TEN_REACTIONS + ";B>C;5A>B", REACTIONS);
        due.reads(TEN_REACTIONS + ";B>C;A>A", REACTIONS);
        due.reads(TEN_REACTIONS + ";B>C;2A>2B;2C>2D", REACTIONS);
        due.sentence("The lines are taken one by one: a fault in the first, a middle, the last");
        due.reads("5A>B;C>D;E>F", HIGH);
        due.reads("C>D;5A>B;E>F", HIGH);
        due.reads("C>D;E>F;5A>B", HIGH);
        due.reads("4A>B;A>C", 2);
        due.reads("2A>B;3A>B", 2);
    }

    private static void numberOfReactions(Due due) {
        due.sentence("Without a fault: the number of reactions");
        due.reads("", 0);
        due.reads("A>B", 1);
        due.reads("A=B", 2);
        due.reads(FULL, 10);
    }

    private static void networkStays(Due due) {
        due.sentence("A read that answers below 0 leaves the network as it was");
        String[] networks = {"", "G>2F", "A+E=F;F>B+E;B+G=C;C>A+G", FULL};
        String[] refused = {"?", "A>B;C", "5A>B", "A>B;C>D;E>5F", "A>A", "2A=3B;2C=3D;0=0",
            NINE_COMPLEXES + ";3A>B", EIGHT_COMPLEXES + ";2A>2B", TEN_REACTIONS + ";B>C",
            NINE_REACTIONS + ";B=C"};
        for (String network : networks) {
            for (String text : refused) {
                SiphonReport x = Due.network(network);
                String reports = Due.reports(x);
                Due.retype(x, text);
                String what = " of \"" + text + "\" after \"" + network + "\"";
                due.is("the sign of read()" + what, x.read() < 0, true);
                due.is("the sign of a second read()" + what, x.read() < 0, true);
                due.is("reports after read()" + what, Due.reports(x), reports);
            }
        }
        due.sentence("And a read after it that answers 0 or more reads all anew");
        for (String text : refused) {
            SiphonReport x = Due.network("A+B=C;0>D");
            Due.readAnew(x, text);
            Due.readAnew(x, "A=2B;G>0");
            due.is("reports after \"" + text + "\"", Due.reports(x),
                Due.reports(Due.network("A=2B;G>0")));
        }
    }
}
