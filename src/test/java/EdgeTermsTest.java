/** "What it is", "The constants" and "Terms": each sentence that names an edge, one by one. */
public final class EdgeTermsTest {
    private static final String RING_OF_NINE = "A>B;B>C;C>D;D>E;E>F;F>G;G>0;0>2A;2A>A";
    private static final String NINE_IN_A_PLANE =
        "0>A;A>2A;2A>B;B>A+B;A+B>2A+B;2A+B>2B;2B>A+2B;A+2B>2A+2B";

    public static void main(String[] args) {
        Due due = new Due("EdgeTermsTest");
        constants(due);
        text(due);
        sides(due);
        complexes(due);
        reactions(due);
        species(due);
        ranks(due);
        classes(due);
        deficiencies(due);
        siphons(due);
        sums(due);
        network(due);
        due.end();
    }

    private static void constants(Due due) {
        due.sentence("HIGH = -200: a number of a complex is above 4");
        due.reads("4A>B", 1);
        due.reads("5A>B", -200);
        due.is("HIGH", SiphonReport.HIGH, -200);
        due.sentence("SAME = -201: both sides of a line say the same complex");
        due.reads("A>A", -201);
        due.is("SAME", SiphonReport.SAME, -201);
        due.sentence("COMPLEXES = -202: more than 9 complexes");
        due.reads("A>B;C>D;E>F;G>0;A>2A", 5);
        due.reads("A>B;C>D;E>F;G>0;3A>2A", -202);
        due.is("COMPLEXES", SiphonReport.COMPLEXES, -202);
        due.sentence("REACTIONS = -203: more than 10 reactions");
        due.reads("A=B;A=C;A=D;A=E;A=F", 10);
        due.reads("A=B;A=C;A=D;A=E;A=F;A>G", -203);
        due.is("REACTIONS", SiphonReport.REACTIONS, -203);
    }

    private static void text(Due due) {
        due.sentence("The text has at most 100 characters");
        due.reads("A>B;".repeat(24) + "A>B ", 1);
        due.reads("A>B;".repeat(24) + "A>BB", -100);
        due.reads("A>B;".repeat(24) + "A>B B", 1);
        due.sentence("Spaces are passed over wherever they stand");
        String text = "2A+B=0;C>3D";
        String reports = Due.reports(Due.network(text));
        StringBuilder wide = new StringBuilder("   ");
        for (int i = 0; i <= text.length(); i++) {
            String spaced = text.substring(0, i) + " " + text.substring(i);
            due.is("reports on \"" + spaced + "\"", Due.reports(Due.network(spaced)), reports);
            wide.append(i < text.length() ? text.charAt(i) + "     " : "");
        }
        due.is("reports on \"" + wide + "\"", Due.reports(Due.network(wide.toString())), reports);
        due.reads("2" + " ".repeat(96) + "A>B", 1);
        due.reads("A B>C", -3);
        due.reads("1 2A>B", -3);
        due.sentence("A text is right if it is nothing");
        due.reads("", 0);
        due.reads(" ", 0);
        due.reads(" ".repeat(100), 0);
        due.sentence("One or more lines with ';' between them");
        due.reads("A>B", 1);
        due.reads("A>B;".repeat(24) + "B>A", 2);
        due.reads(";", -1);
        due.reads(" ;", -2);
        due.reads(";A>B", -1);
        due.reads("A>B;", -5);
        due.reads("A>B; ", -6);
        due.reads("A>B;;B>A", -5);
        due.reads("A>B,B>A", -4);
        due.reads("A>B:B>A", -4);
        due.reads("A>B<B>A", -4);
    }

    private static void sides(Due due) {
        due.sentence("A line is a side, then '>' or '=', then a side");
        due.reads("A=B", 2);
        due.reads("A<B", -2);
        due.reads("A?B", -2);
        due.reads("A;B", -2);
        due.reads(">B", -1);
        due.reads("=B", -1);
        due.reads("A>", -3);
        due.reads("A=", -3);
        due.reads("A", -2);
        due.reads("A>>B", -3);
        due.reads("A>=B", -3);
        due.reads("A=>B", -3);
        due.reads("A>B>C", -4);
        due.reads("A>B=C", -4);
        due.sentence("A side is '0'; or one or more terms with '+' between them");
        due.reads("0>A", 1);
        due.reads("A>0", 1);
        due.reads("00>A", -2);
        due.reads("A>00", -4);
        due.reads("0A>B", -2);
        due.reads("0+A>B", -2);
        due.reads("A+0>B", -3);
        due.reads("A>B+0", -5);
        due.reads("+A>B", -1);
        due.reads("A+>B", -3);
        due.reads("A++B>C", -3);
        due.reads("A>B+;", -5);
        due.reads("A>B+", -5);
        due.reads("AB>C", -2);
        StringBuilder side = new StringBuilder("A+A+A+A");
        for (char c = 'B'; c <= 'G'; c++) {
            side.append("+x+x+x+x".replace('x', c));
        }
        due.reads(side + ">0", 1);
        due.reads("0=" + side, 2);
        due.reads("0=" + side + "+A", SiphonReport.HIGH);
        due.sentence("A term is a species, or a digit '1' .. '9' and then a species");
        for (int digit = 1; digit <= 9; digit++) {
            due.reads(digit + "A>B", digit <= 4 ? 1 : SiphonReport.HIGH);
            due.reads("B>" + digit + "C", digit <= 4 ? 1 : SiphonReport.HIGH);
            due.reads(digit + ">A", -2);
            due.reads("A" + digit + ">A", -2);
            due.reads(digit + "1A>A", -2);
            due.reads(digit + "0A>A", -2);
        }
        due.reads("/A>B", -1);
        due.reads(":A>B", -1);
        due.reads("0A>B", -2);
        due.reads("2", -2);
    }

    private static void complexes(Due due) {
        due.sentence("The sum of the digits of the terms (without a digit counts 1)");
        numbersAre(due, "A>2A", "1000000 2000000 ");
        numbersAre(due, "1G>4G", "0000001 0000004 ");
        numbersAre(due, "2A+A>A+3B", "3000000 1300000 ");
        numbersAre(due, "A+2A+A>2G+C+G", "4000000 0010003 ");
        numbersAre(due, "2A>B;3C>D", "2000000 0100000 0030000 0001000 ");
        due.sentence("'0' says the complex with 0 for every species");
        numbersAre(due, "0>A", "0000000 1000000 ");
        numbersAre(due, "G>0;0>A", "0000001 0000000 1000000 ");
        due.sentence("Sides that say the same numbers say the same complex");
        numbersAre(due, "A+B>C;B+A>D", "1100000 0010000 0001000 ");
        numbersAre(due, "2A>B;A+A>C;1A+1A>D", "2000000 0100000 0010000 0001000 ");
        numbersAre(due, "A>2A;A+B>2A+B", "1000000 2000000 1100000 2100000 ");
        numbersAre(due, "G>0;2G>0", "0000001 0000000 0000002 ");
        due.sentence("Complexes are numbered in the order in which the text says them first");
        numbersAre(due, "C>A;B>C;A>0;0=B", "0010000 1000000 0100000 0000000 ");
        numbersAre(due, "G=F;E=G", "0000001 0000010 0000100 ");
    }

    private static void numbersAre(Due due, String text, String want) {
        SiphonReport x = Due.network(text);
        StringBuilder b = new StringBuilder();
        for (int i = 0; i < x.complexes(); i++) {
            for (int s = 0; s < 7; s++) {
                b.append(x.coefficient(i, s));
            }
            b.append(' ');
        }
        due.is("the numbers of \"" + text + "\"", b.toString(), want);
    }

    private static void reactions(Due due) {
        due.sentence("'>' gives a reaction from the left side to the right side");
        SiphonReport x = Due.network("A>B");
        due.is("reactions()", x.reactions(), 1);
        due.is("terminal(0)", x.terminal(0), false);
        due.is("terminal(1)", x.terminal(1), true);
        due.sentence("'=' gives that reaction and the reaction back");
        due.is("reports on A=B", Due.reports(Due.network("A=B")),
            Due.reports(Due.network("A>B;B>A")));
        due.is("strong()", Due.network("A=B").strong(), 1);
        due.reads("A=B", 2);
        due.sentence("The same reaction given more than once is one reaction");
        due.reads("A>B;A>B", 1);
        due.reads("A=B;B=A;A>B;B>A", 2);
        due.reads("A+B>2C;1B+A>C+C", 1);
        due.reads("0>A;0>A;A>0", 2);
        due.reads("A>B;A+C>B+C", 2);
    }

    private static void species(Due due) {
        due.sentence("There are seven species, A .. G; sets are told as sums of 1 .. 64");
        for (int s = 0; s < 7; s++) {
            SiphonReport x = Due.typed((char) ('A' + s) + ">0");
            due.is("read() with species " + s, x.read(), 1);
            due.is("occurring() with species " + s, x.occurring(), 1 << s);
            due.is("siphon(0) with species " + s, x.siphon(0), 1 << s);
        }
        for (char c : "@HIZ[`aghz".toCharArray()) {
            due.reads(c + ">A", -1);
            due.reads("2" + c + ">A", -2);
            due.reads("A>" + c, -3);
        }
        due.is("all seven", Due.network("A+B+C+D>E+F+G").occurring(), 127);
        due.sentence("A species occurs if some complex has a number above 0 for it");
        due.is("none", new SiphonReport().occurring(), 0);
        due.is("on the left alone", Due.network("B>0").occurring(), 2);
        due.is("on the right alone", Due.network("0>4B").occurring(), 2);
        due.is("on both sides", Due.network("C+A>C+B").occurring(), 7);
        due.is("in the last complex", Due.network("A>B;C>D;E>F;A>0;0>G").occurring(), 127);
    }

    private static void ranks(Due due) {
        due.sentence("The rank of no reactions is 0");
        due.is("a new object", new SiphonReport().rank(), 0);
        SiphonReport x = Due.network("A>B;C>D");
        due.is("before", x.rank(), 2);
        Due.readAnew(x, "");
        due.is("after nothing was read", x.rank(), 0);
        due.sentence("The rank is that of the vectors over the rational numbers");
        due.is("2A>0", Due.network("2A>0").rank(), 1);
        due.is("3A>0", Due.network("3A>0").rank(), 1);
        due.is("determinant 2", Due.network("A+B>0;A>B").rank(), 2);
        due.is("determinant 3", Due.network("A+B>0;A>2B").rank(), 2);
        due.is("determinant 5", Due.network("A+2B>0;2A>B").rank(), 2);
        due.is("determinant 7", Due.network("2A+B>0;3B>A").rank(), 2);
        due.is("fractions", Due.network("2A+3B>0;4A>2B;3A+B>4C;4A+3C>B").rank(), 3);
        due.is("a reaction and its way back", Due.network("A=B").rank(), 1);
        due.is("multiples", Due.network("A>2B;2A>4B;C+2B>A+C").rank(), 1);
        due.is("as many as there can be", Due.network("A=0;0=B;0=C;0>D;0>E;0>F;G>A").rank(), 7);
    }

    private static void classes(Due due) {
        due.sentence("Linkage classes: over reactions, taken forward or backward");
        due.is("no complexes", new SiphonReport().linkage(), 0);
        due.is("two that meet in a third", Due.network("A>C;B>C").linkage(), 1);
        due.is("two from one", Due.network("A>B;A>C").linkage(), 1);
        due.is("the most", Due.network("A>B;C>D;E>F;G>0").linkage(), 4);
        due.is("nine in a ring", Due.network(RING_OF_NINE).linkage(), 1);
        due.is("zigzag", Due.network("A>B;C>B;C>D;E>D;E>F;G>F;G>0;2A>0").linkage(), 1);
        due.sentence("Linkage classes are numbered in the order of their least complexes");
        SiphonReport x = Due.network("A>B;C>D;E>F;E>B;D>G");
        int[] want = {0, 0, 1, 1, 0, 0, 1};
        for (int i = 0; i < want.length; i++) {
            due.is("classOf(" + i + ")", x.classOf(i), want[i]);
        }
        due.is("classOf(4) of a later least", Due.network("A>B;C>D;0>E").classOf(4), 2);
        SiphonReport late = Due.network("A>B;C>D;E>F;G>0;D>F;B>F");
        int[] joined = {0, 0, 0, 0, 0, 0, 1, 1};
        for (int i = 0; i < joined.length; i++) {
            due.is("classOf(" + i + ") of classes joined late", late.classOf(i), joined[i]);
        }
        due.sentence("Strong classes: from each to the other taken forward (or the same)");
        due.is("no complexes", new SiphonReport().strong(), 0);
        due.is("no way back", Due.network("A>B").strong(), 2);
        due.is("nine in a chain", Due.network("A>B;B>C;C>D;D>E;E>F;F>G;G>0;0>2A").strong(), 9);
        due.is("nine in a ring", Due.network(RING_OF_NINE).strong(), 1);
        due.is("meeting is no way", Due.network("A>C;B>C").strong(), 3);
        due.sentence("A strong class is terminal if no reaction goes from it outside");
        SiphonReport y = Due.network("A>B;B>C;C>A;C>D;E>D");
        boolean[] ends = {false, false, false, true, false};
        for (int i = 0; i < ends.length; i++) {
            due.is("terminal(" + i + ")", y.terminal(i), ends[i]);
        }
        SiphonReport ring = Due.network(RING_OF_NINE);
        for (int i = 0; i < 9; i++) {
            due.is("terminal(" + i + ") of a ring", ring.terminal(i), true);
        }
    }

    private static void deficiencies(Due due) {
        due.sentence("A linkage class's deficiency: complexes - 1 - rank of its reactions");
        due.is("least", Due.network("A>B").deficiency(0), 0);
        due.is("greatest", Due.network(NINE_IN_A_PLANE).deficiency(0), 6);
        SiphonReport x = Due.network("A>2A;2A>3A;3A>4A;B>C;2B>2C");
        due.is("of the first", x.deficiency(0), 2);
        due.is("of the second", x.deficiency(1), 0);
        due.is("of the third", x.deficiency(2), 0);
        due.sentence("The network's deficiency: complexes - linkage classes - rank");
        due.is("of no network", new SiphonReport().deficiency(-1), 0);
        due.is("least", Due.network("A>B;C>D;E>F;G>0").deficiency(-1), 0);
        due.is("greatest", Due.network(NINE_IN_A_PLANE).deficiency(-1), 6);
        due.is("more than its classes' sum", x.deficiency(-1), 8 - 3 - 2);
    }

    private static void siphons(Due due) {
        due.sentence("A siphon is a set of one or more species that occur");
        due.is("none for 0>A", Due.network("0>A").siphons(), 0);
        due.is("none without species", new SiphonReport().siphons(), 0);
        due.is("one for A>0", Due.network("A>0").siphons(), 1);
        due.is("siphon(0) of A>0", Due.network("A>0").siphon(0), 1);
        due.sentence("Every reaction to a complex with a species of it comes from such a one");
        due.is("what is made from nothing", Due.network("0>A;B>A").siphon(0), 2);
        due.is("all seven", Due.network("A>B;B>C;C>D;D>E;E>F;F>G;G>A").siphon(0), 127);
        due.is("a reaction to nothing", Due.network("A=B;A>0").siphon(0), 3);
        due.sentence("A complex is with a species if its number is above 0");
        due.is("A>4A", Due.network("A>4A").siphon(0), 1);
        due.is("4A>A", Due.network("4A>A").siphon(0), 1);
        due.is("4A=B", Due.network("4A=B").siphon(0), 3);
        due.sentence("A siphon is minimal if no other siphon is a part of it");
        due.is("A>0;B>0", Due.network("A>0;B>0").siphons(), 2);
        due.is("A>B", Due.network("A>B").siphons(), 1);
        due.is("A=B;C=D", Due.network("A=B;C=D").siphons(), 2);
    }

    private static void sums(Due due) {
        due.sentence("Weights are whole numbers of at least 0, not 0 for all");
        due.is("A+B>0", Due.network("A+B>0").sums(), 0);
        due.is("A>0", Due.network("A>0").sums(), 0);
        due.is("A>B;A>C+B", Due.network("A>B;A>C+B").sums(), 1);
        due.sentence("A weight is given to each species that occurs, and to no other");
        due.is("no species", new SiphonReport().sums(), 0);
        due.is("A=B", Due.network("A=B").sums(), 1);
        due.is("a species that every reaction keeps", Due.network("A+G=G+B").support(1), 64);
        due.is("all seven", Due.network("A>B;B>C;C>D;D>E;E>F;F>G").support(0), 127);
        due.sentence("The weights of a minimal sum have no common divisor above 1");
        for (int digit = 1; digit <= 4; digit++) {
            SiphonReport x = Due.network(digit + "A=" + digit + "B");
            due.is("weight(0, 0) for " + digit, x.weight(0, 0), 1);
            due.is("weight(0, 1) for " + digit, x.weight(0, 1), 1);
        }
        due.is("4A>2B, A", Due.network("4A>2B").weight(0, 0), 1);
        due.is("4A>2B, B", Due.network("4A>2B").weight(0, 1), 2);
        due.is("4A+B=B", Due.network("4A+B=B").weight(0, 1), 1);
        due.is("three weights", Due.network("2A>4B;4C>2A").weight(0, 0), 2);
        due.sentence("No conserved sum has a support that is a part of a minimal one's");
        due.is("A=B;C=D", Due.network("A=B;C=D").sums(), 2);
        due.is("A+B=C+D", Due.network("A+B=C+D").sums(), 4);
        due.is("A+B=A+C", Due.network("A+B=A+C").sums(), 2);
    }

    private static void network(Due due) {
        String empty = Due.reports(new SiphonReport());
        due.sentence("Before, it has no reactions and no complexes");
        due.is("reports on a text not read", Due.reports(Due.typed("A=B")), empty);
        due.is("reports after a wrong text", Due.reports(Due.network("A=")), empty);
        due.is("reports after a fault", Due.reports(Due.network("A=B;C=C")), empty);
        due.sentence("The network is what the latest read() that answered 0 or more read");
        String[] texts = {"", "G>0", "A=B;C=D", "A>B;A>C;D>B", "A+B=2C;2C>D;E=0", "C=4A;4A>G",
            RING_OF_NINE, NINE_IN_A_PLANE};
        for (String former : texts) {
            for (String latest : texts) {
                SiphonReport x = Due.network(former);
                Due.readAnew(x, latest);
                due.is("reports on \"" + latest + "\" after \"" + former + "\"", Due.reports(x),
                    Due.reports(Due.network(latest)));
            }
        }
        SiphonReport z = Due.network("A=B;B>C");
        Due.readAnew(z, "  ");
        due.is("reports after a read that answered 0", Due.reports(z), empty);
        due.sentence("All reports are on it, whatever became of the text since");
        SiphonReport y = Due.network("A=B;B>C");
        String reports = Due.reports(y);
        Due.typeOn(y, "+D");
        due.is("reports after typing", Due.reports(y), reports);
        y.clear();
        due.is("reports after clear()", Due.reports(y), reports);
        Due.typeOn(y, "E>F");
        due.is("reports after typing anew", Due.reports(y), reports);
    }
}
