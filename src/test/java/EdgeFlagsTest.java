/** Promise 21: each flag where there is none of what it speaks of, one, several, all but one. */
public final class EdgeFlagsTest {
    private static final int ONE_STRONG = 1;
    private static final int ZERO = 2;
    private static final int NEARLY = 4;
    private static final int SIPHONS = 8;
    private static final int SPECIES = 16;

    public static void main(String[] args) {
        Due due = new Due("EdgeFlagsTest");
        whenThereIsNone(due);
        everyLinkageIsStrong(due);
        networkOfZero(due);
        linkagesOfAtMostOne(due);
        oneTerminalClass(due);
        deficienciesAddUp(due);
        everySiphon(due);
        everySpecies(due);
        sumOfFlags(due);
        due.end();
    }

    private static void whenThereIsNone(Due due) {
        due.sentence("What is said of every one holds when there is none: no linkage classes");
        SiphonReport cleared = Due.network("A>B;A>C;G>0");
        Due.readAnew(cleared, "");
        SiphonReport[] empty = {new SiphonReport(), Due.network(""), Due.network(" "),
            Due.typed("A>0"), Due.network("A>"), cleared};
        for (SiphonReport x : empty) {
            has(due, "no network", x, ONE_STRONG, true);
            has(due, "no network", x, ZERO, true);
            has(due, "no network", x, NEARLY, true);
        }
        due.sentence("What is said of every one holds when there is none: no minimal siphons");
        for (SiphonReport x : empty) {
            has(due, "no network", x, SIPHONS, true);
        }
        has(due, "0>A", SIPHONS, true);
        has(due, "0=A", SIPHONS, true);
        has(due, "0>A;A>B", SIPHONS, true);
        has(due, "0=4G;0>A+F", SIPHONS, true);
        due.sentence("What is said of every one holds when there is none: no species occurs");
        for (SiphonReport x : empty) {
            has(due, "no network", x, SPECIES, true);
            due.is("flags() of no network", x.flags(), 31);
        }
        due.sentence("But there are no sums for a species that occurs");
        has(due, "0>A", SPECIES, false);
        has(due, "0=A", SPECIES, false);
    }

    private static void everyLinkageIsStrong(Due due) {
        due.sentence("1, if every linkage class is one strong class");
        has(due, "A=B", ONE_STRONG, true);
        has(due, "A>B", ONE_STRONG, false);
        has(due, "A=B;C=D;E=F;G=0", ONE_STRONG, true);
        has(due, "A=B;C=D;E=F;G>0", ONE_STRONG, false);
        has(due, "A>B;C=D;E=F;G=0", ONE_STRONG, false);
        has(due, "A=B;C=D;B>C", ONE_STRONG, false);
        has(due, "A>B;B>C;C>D;D>E;E>F;F>G;G>0;0>2A;2A>A", ONE_STRONG, true);
        has(due, "A>B;B>C;C>D;D>E;E>F;F>G;G>0;0>2A", ONE_STRONG, false);
    }

    private static void networkOfZero(Due due) {
        due.sentence("2, if that is so and the network's deficiency is 0");
        has(due, "A=B", ZERO, true);
        has(due, "A=B;C=D;E=F;G=0", ZERO, true);
        due.is("deficiency(-1) of A>B", Due.network("A>B").deficiency(-1), 0);
        has(due, "A>B", ZERO, false);
        due.is("deficiency(-1) of A=2A;2A=3A", Due.network("A=2A;2A=3A").deficiency(-1), 1);
        has(due, "A=2A;2A=3A", ZERO, false);
        due.is("deficiency(-1) of A=B;2A=2B", Due.network("A=B;2A=2B").deficiency(-1), 1);
        has(due, "A=B;2A=2B", ZERO, false);
        has(due, "A=B;2A>2B", ZERO, false);
    }

    private static void linkagesOfAtMostOne(Due due) {
        due.sentence("4, if every linkage class has a deficiency of at most 1");
        has(due, "A=B", NEARLY, true);
        has(due, "A=2A;2A=3A", NEARLY, true);
        has(due, "A=2A;2A=3A;3A=4A", NEARLY, false);
        has(due, "A=2A;2A=3A;B=2B;2B=3B", NEARLY, true);
        has(due, "A=2A;2A=3A;3A=4A;B=C", NEARLY, false);
        has(due, "B=C;A=2A;2A=3A;3A=4A", NEARLY, false);
        has(due, "0>A;A>2A;2A>B;B>A+B;A+B>2A+B;2A+B>2B;2B>A+2B;A+2B>2A+2B", NEARLY, false);
    }

    private static void oneTerminalClass(Due due) {
        due.sentence("4, if every linkage class has just one terminal strong class");
        has(due, "A>B", NEARLY, true);
        has(due, "A>B;B=C", NEARLY, true);
        has(due, "B>A;C>A", NEARLY, true);
        has(due, "A>B;A>C", NEARLY, false);
        has(due, "A>B;B=C;A>D", NEARLY, false);
        has(due, "A>B;C>D;E>F;G>0", NEARLY, true);
        has(due, "A>B;A>C;D>E", NEARLY, false);
        has(due, "D>E;A>B;A>C", NEARLY, false);
    }

    private static void deficienciesAddUp(Due due) {
        due.sentence("4, if the linkage classes' deficiencies add up to the network's");
        has(due, "A=B;C=D", NEARLY, true);
        has(due, "A=B;2A=2B", NEARLY, false);
        has(due, "A>B;B+C>A+C", NEARLY, false);
        has(due, "A=2A;2A=3A;B=C;B+D=C+D", NEARLY, false);
        due.is("deficiency(0)", Due.network("A=B;2A=2B").deficiency(0), 0);
        due.is("deficiency(1)", Due.network("A=B;2A=2B").deficiency(1), 0);
    }

    private static void everySiphon(Due due) {
        due.sentence("8, if every minimal siphon holds the support of some conserved sum");
        has(due, "A=B", SIPHONS, true);
        has(due, "A>B", SIPHONS, false);
        has(due, "A>0", SIPHONS, false);
        has(due, "A=B;C=D;E+G=F+G", SIPHONS, true);
        has(due, "A=2A;C=D;E+G=F+G", SIPHONS, false);
        has(due, "A=B;C=2C;E+G=F+G", SIPHONS, false);
        has(due, "A=B;C=D;E+G=F+G;E=2E", SIPHONS, false);
        has(due, "A=B;0=C", SIPHONS, true);
    }

    private static void everySpecies(Due due) {
        due.sentence("16, if every species that occurs is in the support of some conserved sum");
        has(due, "A>B", SPECIES, true);
        has(due, "A>0", SPECIES, false);
        has(due, "A+B>C", SPECIES, true);
        has(due, "A+B+C+D>E+F+G", SPECIES, true);
        has(due, "A>B;C>D;E>F;G>0", SPECIES, false);
        has(due, "A>0;B>C;D>E;F>G", SPECIES, false);
        has(due, "A>B;C>D;E>F;G+A>G+B", SPECIES, true);
        has(due, "C=D", SPECIES, true);
    }

    private static void sumOfFlags(Due due) {
        due.sentence("The sum of those that hold");
        due.is("all", Due.network("A=B").flags(), 31);
        due.is("all of seven species", Due.network("A=B;C=D;E+G=F+G").flags(), 31);
        due.is("none", Due.network("A>B;A>C;G>0").flags(), 0);
        due.is("1 alone", Due.network("A=2A;2A=3A;3A=4A").flags(), ONE_STRONG);
        due.is("4 alone", Due.network("A>0").flags(), NEARLY);
        due.is("8 alone", Due.network("0>A;0>B").flags(), SIPHONS);
        due.is("16 alone", Due.network("A>B;A>C").flags(), SPECIES);
        due.is("all but 16", Due.network("0=A").flags(), 15);
        due.is("all but 8", Due.network("A+B=2A").flags(), 31 - SIPHONS);
        due.is("4 and 8", Due.network("0>G").flags(), NEARLY + SIPHONS);
        due.is("4 and 16", Due.network("A>B").flags(), NEARLY + SPECIES);
        due.is("all but 2 and 4", Due.network("A=B;2A=2B").flags(), 31 - ZERO - NEARLY);
    }

    private static void has(Due due, String text, int flag, boolean want) {
        has(due, text, Due.network(text), flag, want);
    }

    private static void has(Due due, String text, SiphonReport x, int flag, boolean want) {
        due.is("flag " + flag + " of \"" + text + "\"", (x.flags() & flag) != 0, want);
    }
}
