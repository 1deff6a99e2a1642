/** Promises 5 to 14: complexes, their classes, ranks and deficiencies. */
public final class StructureTest {
    private static final int[] NO_SUCH = {-2, -3, 9, 10, 100, Integer.MIN_VALUE,
        Integer.MAX_VALUE};

    public static void main(String[] args) {
        Due due = new Due("StructureTest");
        counts(due);
        coefficients(due);
        occurring(due);
        linkageClasses(due);
        strongClasses(due);
        terminalClasses(due);
        ranks(due);
        deficiencies(due);
        smallerAfterLarger(due);
        reportsOutliveText(due);
        due.end();
    }

    private static void counts(Due due) {
        SiphonReport x = Due.network("A=B;B>A;A+B>2C;0>B;B+A>C+C");
        due.is("reactions()", x.reactions(), 4);
        due.is("complexes()", x.complexes(), 5);
        SiphonReport y = Due.network("A=B;A=C;A=D;A=E;A=F");
        due.is("reactions() at most", y.reactions(), 10);
        SiphonReport z = Due.network("A>B;C>D;E>F;G>0;A>2A");
        due.is("complexes() at most", z.complexes(), 9);
        Due.retype(z, "A>B");
        z.read();
        due.is("complexes() of a smaller network", z.complexes(), 2);
        due.is("reactions() of a smaller network", z.reactions(), 1);
    }

    private static void coefficients(Due due) {
        SiphonReport x = Due.network("2A+B+A>0;4G+C>3A+B;B=A");
        int[][] want = {{3, 1, 0, 0, 0, 0, 0}, {0, 0, 0, 0, 0, 0, 0}, {0, 0, 1, 0, 0, 0, 4},
            {0, 1, 0, 0, 0, 0, 0}, {1, 0, 0, 0, 0, 0, 0}};
        due.is("complexes()", x.complexes(), want.length);
        for (int i = 0; i < want.length; i++) {
            for (int s = 0; s < 7; s++) {
                due.is("coefficient(" + i + ", " + s + ")", x.coefficient(i, s), want[i][s]);
            }
        }
        due.is("coefficient(5, 0)", x.coefficient(5, 0), -1);
        due.is("coefficient(-1, 0)", x.coefficient(-1, 0), -1);
        due.is("coefficient(0, -1)", x.coefficient(0, -1), -1);
        due.is("coefficient(0, 7)", x.coefficient(0, 7), -1);
        for (int n : NO_SUCH) {
            due.is("coefficient(" + n + ", 0)", x.coefficient(n, 0), -1);
            due.is("coefficient(0, " + n + ")", x.coefficient(0, n), -1);
        }
    }

    private static void occurring(Due due) {
        due.is("A>B", Due.network("A>B").occurring(), 3);
        due.is("0>G", Due.network("0>G").occurring(), 64);
        due.is("2C>D+F", Due.network("2C>D+F").occurring(), 4 + 8 + 32);
        due.is("all", Due.network("A+B+C+D>E+F+G").occurring(), 127);
        due.is("E that stays", Due.network("E+A>E+B").occurring(), 19);
    }

    private static void linkageClasses(Due due) {
        SiphonReport x = Due.network("A>B;C>D;0>E;D>B;F=G");
        due.is("linkage()", x.linkage(), 3);
        int[] want = {0, 0, 0, 0, 1, 1, 2, 2};
        for (int i = 0; i < want.length; i++) {
            due.is("classOf(" + i + ")", x.classOf(i), want[i]);
        }
        due.is("classOf(8)", x.classOf(8), -1);
        due.is("classOf(-1)", x.classOf(-1), -1);
        for (int n : NO_SUCH) {
            due.is("classOf(" + n + ")", x.classOf(n), -1);
        }
        SiphonReport y = Due.network("A>B;C>D;B>E;F>D");
        int[] mixed = {0, 0, 1, 1, 0, 1};
        for (int i = 0; i < mixed.length; i++) {
            due.is("mixed classOf(" + i + ")", y.classOf(i), mixed[i]);
        }
        due.is("a star", Due.network("A>B;A>C;D>A").linkage(), 1);
        due.is("a chain that closes late", Due.network("A>B;C>D;E>F;D>F;B>E").linkage(), 1);
    }

    private static void strongClasses(Due due) {
        due.is("A>B", Due.network("A>B").strong(), 2);
        due.is("A=B", Due.network("A=B").strong(), 1);
        due.is("a ring", Due.network("A>B;B>C;C>D;D>A").strong(), 1);
        due.is("a star", Due.network("A=B;A=C;D=A").strong(), 1);
        due.is("a ring with a tail", Due.network("A>B;B>C;C>A;C>D;E>A").strong(), 3);
        due.is("two rings, one way", Due.network("A=B;C=D;A>C").strong(), 2);
        due.is("two rings, both ways", Due.network("A=B;C=D;A>C;D>B").strong(), 1);
        due.is("no joined class at all", Due.network("A>B;A>C;B>D;C>D").strong(), 4);
        due.is("a ring of nine", Due.network("A>B;B>C;C>D;D>E;E>F;F>G;G>0;0>2A;2A>A").strong(), 1);
    }

    private static void terminalClasses(Due due) {
        SiphonReport x = Due.network("A=B;B>C;C=D;A>E;F>G");
        boolean[] want = {false, false, true, true, true, false, true};
        for (int i = 0; i < want.length; i++) {
            due.is("terminal(" + i + ")", x.terminal(i), want[i]);
        }
        due.is("terminal(7)", x.terminal(7), false);
        due.is("terminal(-1)", x.terminal(-1), false);
        for (int n : NO_SUCH) {
            due.is("terminal(" + n + ")", x.terminal(n), false);
        }
        Due.retype(x, "A>B;B>C;C>A;C>D;D>E;E>D");
        x.read();
        due.is("ring that is left", x.terminal(0), false);
        due.is("ring that is not left", x.terminal(4), true);
        due.is("terminal(5) of a smaller network", x.terminal(5), false);
    }

    private static void ranks(Due due) {
        due.is("A=B", Due.network("A=B").rank(), 1);
        due.is("0>A", Due.network("0>A").rank(), 1);
        due.is("a ring", Due.network("A>B;B>C;C>A").rank(), 2);
        due.is("multiples", Due.network("A>B;2A>2B;3A>3B;4A+C>4B+C").rank(), 1);
        due.is("A+B>C;2C>2A+2B", Due.network("A+B>C;2C>2A+2B").rank(), 1);
        due.is("seven", Due.network("0>A;0>B;0>C;0>D;0>E;0>F;0>G").rank(), 7);
        due.is("seven of eight", Due.network("0>A;0>B;0>C;0>D;0>E;0>F;0>G;0>A+B").rank(), 7);
        due.is("large numbers", Due.network("4A+3B>3C+2D;3A+4C>4B+D;4D+A>3B+C;2B+3D>4A").rank(),
            4);
        due.is("rank below the columns", Due.network("A+B>2C;3A+3B>2C;C>2C").rank(), 2);
    }

    private static void deficiencies(Due due) {
        SiphonReport x = Due.network("2A>A+B;A+B>2B;C=D;A>C");
        due.is("linkage()", x.linkage(), 2);
        due.is("deficiency(0)", x.deficiency(0), 1);
        due.is("deficiency(1)", x.deficiency(1), 0);
        due.is("deficiency(-1)", x.deficiency(-1), 6 - 2 - 3);
        due.is("deficiency(2)", x.deficiency(2), -1);
        for (int n : NO_SUCH) {
            due.is("deficiency(" + n + ")", x.deficiency(n), -1);
        }
        SiphonReport y = Due.network("A>B;2A>2B;3A>3B");
        due.is("each is 0", y.deficiency(0) + y.deficiency(1) + y.deficiency(2), 0);
        due.is("but the network's is 2", y.deficiency(-1), 2);
        SiphonReport z = Due.network("A>2A;2A>3A;3A>4A;4A>0");
        due.is("deficiency(0) of one line", z.deficiency(0), 3);
        due.is("deficiency(-1) of one line", z.deficiency(-1), 3);
    }

    private static void smallerAfterLarger(Due due) {
        SiphonReport x = Due.network("A>2A;2A>3A;3A>4A;B>2B;2B>3B;3B>0");
        due.is("deficiency(1) of the larger", x.deficiency(1), 2);
        Due.retype(x, "A=B");
        x.read();
        due.is("linkage() of the smaller", x.linkage(), 1);
        due.is("deficiency(0) of the smaller", x.deficiency(0), 0);
        due.is("deficiency(1) of the smaller", x.deficiency(1), -1);
        due.is("classOf(2) of the smaller", x.classOf(2), -1);
        due.is("coefficient(2, 0) of the smaller", x.coefficient(2, 0), -1);
        due.is("terminal(3) of the smaller", x.terminal(3), false);
    }

    private static void reportsOutliveText(Due due) {
        SiphonReport x = Due.network("A=B;B>C");
        x.clear();
        Due.typeOn(x, "D>E+");
        due.is("complexes() after the text changed", x.complexes(), 3);
        due.is("rank() after the text changed", x.rank(), 2);
        due.is("terminal(2) after the text changed", x.terminal(2), true);
        due.is("read() of the new text", x.read(), -5);
        due.is("linkage() after a wrong text", x.linkage(), 1);
        Due.typeOn(x, "F");
        due.is("read() of the whole text", x.read(), 1);
        due.is("occurring() of the new network", x.occurring(), 8 + 16 + 32);
        due.is("complexes() of the new network", x.complexes(), 2);
    }
}
