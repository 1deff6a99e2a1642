/** Promises 15 to 17: minimal siphons and whether they hold a conserved sum's support. */
public final class SiphonTest {
    public static void main(String[] args) {
        Due due = new Due("SiphonTest");
        siphonsAre(due, "A>B", 1);
        siphonsAre(due, "A=B", 3);
        siphonsAre(due, "0>A");
        siphonsAre(due, "0=A");
        siphonsAre(due, "A>0", 1);
        siphonsAre(due, "0>A;B>C", 2);
        siphonsAre(due, "A+B=C", 5, 6);
        siphonsAre(due, "A+B>C;C>A+D", 2, 5);
        siphonsAre(due, "A>B;B>C;C>A;D=E", 7, 24);
        siphonsAre(due, "A>B;B>C;C>D;D>E;E>F;F>G;G>A", 127);
        siphonsAre(due, "2A>3A", 1);
        siphonsAre(due, "A+B>A+C", 1, 2);
        siphonsAre(due, "A+E=F;F>B+E;B+G=C;C>A+G", 39, 48, 68);
        siphonsAre(due, "A+B+C+D+E+F>G;G>A+B+C+D+E+F", 65, 66, 68, 72, 80, 96);
        siphonsAre(due, "A+B=C+D;E+F=0", 5, 6, 9, 10);
        conservedOnes(due);
        noSuchNumber(due);
        smallerAfterLarger(due);
        due.end();
    }

    private static void siphonsAre(Due due, String text, int... want) {
        SiphonReport x = Due.network(text);
        due.is("siphons() of " + text, x.siphons(), want.length);
        for (int k = 0; k < want.length; k++) {
            due.is("siphon(" + k + ") of " + text, x.siphon(k), want[k]);
        }
        due.is("siphon behind the last of " + text, x.siphon(want.length), 0);
        due.is("conserved behind the last of " + text, x.conserved(want.length), false);
    }

    private static void conservedOnes(Due due) {
        SiphonReport x = Due.network("A+B=C;C>A+D");
        due.is("conserved {A, C}", x.conserved(0), true);
        due.is("conserved {B, C}", x.conserved(1), false);
        SiphonReport y = Due.network("A>B");
        due.is("a sum that is wider than the siphon", y.conserved(0), false);
        SiphonReport z = Due.network("E+A>E+B");
        due.is("siphons()", z.siphons(), 2);
        due.is("conserved {A}", z.conserved(0), false);
        due.is("conserved {E}", z.conserved(1), true);
        SiphonReport w = Due.network("A=2A;B=C");
        due.is("siphon(0)", w.siphon(0), 1);
        due.is("conserved {A}", w.conserved(0), false);
        due.is("conserved {B, C}", w.conserved(1), true);
        // {A, B} with weights 2 and 1 only: the siphon is the whole support.
        due.is("A=2B", Due.network("A=2B").conserved(0), true);
    }

    private static void noSuchNumber(Due due) {
        SiphonReport x = Due.network("A=B");
        int[] wrong = {-1, -2, 1, 2, 34, 35, 36, 127, Integer.MIN_VALUE, Integer.MAX_VALUE};
        for (int k : wrong) {
            due.is("siphon(" + k + ")", x.siphon(k), 0);
            due.is("conserved(" + k + ")", x.conserved(k), false);
        }
    }

    private static void smallerAfterLarger(Due due) {
        SiphonReport x = Due.network("A+B+C+D+E+F=G");
        due.is("siphons() of many", x.siphons(), 6);
        Due.retype(x, "A=B");
        x.read();
        due.is("siphons() of few", x.siphons(), 1);
        due.is("siphon(1) of few", x.siphon(1), 0);
        due.is("conserved(1) of few", x.conserved(1), false);
    }
}
