/** Promises 18 to 20: minimal conserved sums, their supports and weights. */
public final class SumTest {
    public static void main(String[] args) {
        Due due = new Due("SumTest");
        sumsAre(due, "0>A");
        sumsAre(due, "A>2A");
        sumsAre(due, "A>B", row(1, 1));
        sumsAre(due, "A=2B", row(2, 1));
        sumsAre(due, "2A>4B", row(2, 1));
        sumsAre(due, "3A>2B", row(2, 3));
        sumsAre(due, "A+B>C", row(1, 0, 1), row(0, 1, 1));
        sumsAre(due, "A+B>C+D", row(1, 0, 1), row(0, 1, 1), row(1, 0, 0, 1), row(0, 1, 0, 1));
        sumsAre(due, "A+B=C;C>A+D", row(1, 0, 1), row(0, 1, 1, 1));
        sumsAre(due, "2A>B;2B>C;2C>D;2D>E", row(1, 2, 4, 8, 16));
        sumsAre(due, "4A>B;4B>C;4C>D;4D>E", row(1, 4, 16, 64, 256));
        sumsAre(due, "4A>3B;4B>3C;4C>3D;4D>3E", row(81, 108, 144, 192, 256));
        sumsAre(due, "4B+3A+2F>4F+3D;4F+3D>2C+2F+4E;G>3F+2C;3E+2C+4A>4F+3D;3F+2C>4D+3B;"
            + "G>4B+3A+2F;4D+3B>3E+2C+4A", row(234, 394, 931, 482, 104, 416, 3110));
        sumsAre(due, "3E+3D+2C>A+4C+3F;A+4C+3F>4C+4B;4C+4B>4E+2B+C;4E+2B+C>2A+D;2A+D>F+4G+E;"
            + "F+4G+E>4G+B+4F", row(2988, 804, 840, 600, 1032, 76, 1367));
        sumsAre(due, "A>B;B>C;C>D;D>E;E>F;F>G;G>A", row(1, 1, 1, 1, 1, 1, 1));
        sumsAre(due, "A+B>A+C", row(1), row(0, 1, 1));
        sumsAre(due, "E+A>E+B", row(1, 1), row(0, 0, 0, 0, 1));
        sumsAre(due, "4G>3F", row(0, 0, 0, 0, 0, 4, 3));
        sumsAre(due, "A>B;C>0;D=E", row(1, 1), row(0, 0, 0, 1, 1));
        sumsAre(due, "A+B+C>0");
        sumsAre(due, "2A+3B>C;4C>2A;3D+B>2E;F>G;G>F", row(0, 0, 0, 2, 3),
            row(0, 0, 0, 0, 0, 1, 1));
        sumsAre(due, "A+E=F;F>B+E;B+G=C;C>A+G", row(1, 1, 1, 0, 0, 1), row(0, 0, 0, 0, 1, 1),
            row(0, 0, 1, 0, 0, 0, 1));
        sumsAre(due, "A+B+C>D+E+F+G", row(1, 0, 0, 1), row(0, 1, 0, 1), row(0, 0, 1, 1),
            row(1, 0, 0, 0, 1), row(0, 1, 0, 0, 1), row(0, 0, 1, 0, 1), row(1, 0, 0, 0, 0, 1),
            row(0, 1, 0, 0, 0, 1), row(0, 0, 1, 0, 0, 1), row(1, 0, 0, 0, 0, 0, 1),
            row(0, 1, 0, 0, 0, 0, 1), row(0, 0, 1, 0, 0, 0, 1));
        noSuchNumber(due);
        smallerAfterLarger(due);
        due.end();
    }

    private static int[] row(int... weights) {
        return java.util.Arrays.copyOf(weights, 7);
    }

    private static void sumsAre(Due due, String text, int[]... want) {
        SiphonReport x = Due.network(text);
        due.is("sums() of " + text, x.sums(), want.length);
        for (int k = 0; k < want.length; k++) {
            int support = 0;
            for (int s = 0; s < 7; s++) {
                support |= want[k][s] > 0 ? 1 << s : 0;
                due.is("weight(" + k + ", " + s + ") of " + text, x.weight(k, s), want[k][s]);
            }
            due.is("support(" + k + ") of " + text, x.support(k), support);
        }
        due.is("support behind the last of " + text, x.support(want.length), 0);
        due.is("weight behind the last of " + text, x.weight(want.length, 0), -1);
    }

    private static void noSuchNumber(Due due) {
        SiphonReport x = Due.network("A=B");
        int[] wrong = {-1, -2, 1, 2, 34, 35, 36, 127, Integer.MIN_VALUE, Integer.MAX_VALUE};
        for (int k : wrong) {
            due.is("support(" + k + ")", x.support(k), 0);
            due.is("weight(" + k + ", 0)", x.weight(k, 0), -1);
        }
        int[] noSpecies = {-1, 7, 8, Integer.MIN_VALUE, Integer.MAX_VALUE};
        for (int s : noSpecies) {
            due.is("weight(0, " + s + ")", x.weight(0, s), -1);
            due.is("weight(1, " + s + ")", x.weight(1, s), -1);
        }
        due.is("weight of a species that doesn't occur", x.weight(0, 6), 0);
    }

    private static void smallerAfterLarger(Due due) {
        SiphonReport x = Due.network("A+B+C>D+E+F+G");
        Due.retype(x, "F=2G");
        x.read();
        due.is("sums() of few", x.sums(), 1);
        due.is("support(0) of few", x.support(0), 96);
        due.is("support(1) of few", x.support(1), 0);
        due.is("weight(0, 0) of few", x.weight(0, 0), 0);
        due.is("weight(0, 5) of few", x.weight(0, 5), 2);
        due.is("weight(1, 0) of few", x.weight(1, 0), -1);
    }
}
