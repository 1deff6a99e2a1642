import java.util.function.Supplier;

/**
 * Promises 5 to 20: how many there are at least and at most, the first and the last of them, and
 * numbers of which there is none.
 */
public final class EdgeNumberTest {
    /** Nine complexes in four linkage classes. */
    private static final String NINE_COMPLEXES = "A>B;C>D;E>F;G>0;A>4G";
    /** Of all networks that a search met the one with the most minimal siphons: 28. */
    private static final String MOST_SIPHONS =
        "A+B+E+G=B+C+D+E;B+D+F+G>B+C+D+E;C+E+F+G=A+C+D+G;A+B+C+F=A+D+E+F";
    /** As many minimal conserved sums as seven species can have: 14. */
    private static final String MOST_SUMS = "C+4D+4E+F>4A+3B+3G;2E+4F+4G>4B+4C+2D";
    // Among them those that are a right number again when they are cut or used as a shift.
    private static final int[] NUMBERS = {Integer.MIN_VALUE, Integer.MIN_VALUE + 1, -1_000_000,
        -65536, -65535, -257, -256, -255, -128, -127, -64, -36, -35, -33, -32, -31, -28, -14, -10,
        -9, -8, -7, -6, -4, -3, -2, -1, 0, 1, 2, 3, 4, 5, 6, 7, 8, 9, 10, 11, 13, 14, 15, 27, 28,
        29, 31, 32, 33, 34, 35, 36, 63, 64, 127, 128, 255, 256, 257, 32767, 32768, 65535, 65536,
        65537, 1_000_000, 1 << 24, 1 << 30, Integer.MAX_VALUE - 1, Integer.MAX_VALUE};

    public static void main(String[] args) {
        Due due = new Due("EdgeNumberTest");
        counts(due);
        firstAndLast(due);
        notOccurring(due);
        refusedOnes(due, "a new object", SiphonReport::new, 0, 0, 0, 0);
        refusedOnes(due, "a text not read", () -> Due.typed("A=B"), 0, 0, 0, 0);
        refusedOnes(due, "A=B", () -> Due.network("A=B"), 2, 1, 1, 1);
        refusedOnes(due, "0>A", () -> Due.network("0>A"), 2, 1, 0, 0);
        refusedOnes(due, "nine complexes", () -> Due.network(NINE_COMPLEXES), 9, 4, 3, 2);
        refusedOnes(due, "most siphons", () -> Due.network(MOST_SIPHONS), 7, 3, 28, 4);
        refusedOnes(due, "most sums", () -> Due.network(MOST_SUMS), 4, 2, 4, 14);
        refusedOnes(due, "a smaller one", () -> after("A=B"), 2, 1, 1, 1);
        refusedOnes(due, "nothing at last", () -> after(" "), 0, 0, 0, 0);
        due.end();
    }

    /** An object that has read large networks before its last one. */
    private static SiphonReport after(String text) {
        SiphonReport x = Due.network(MOST_SIPHONS);
        Due.readAnew(x, MOST_SUMS);
        Due.readAnew(x, NINE_COMPLEXES);
        Due.readAnew(x, text);
        return x;
    }

    private static void counts(Due due) {
        due.sentence("Promise 5: how many reactions, from none to the most");
        due.is("none", new SiphonReport().reactions(), 0);
        due.is("ten", Due.network("A=B;A=C;A=D;A=E;A=F").reactions(), 10);
        due.is("none again", after("").reactions(), 0);
        due.sentence("Promise 6: how many complexes, from none to the most");
        due.is("none", new SiphonReport().complexes(), 0);
        due.is("nine", Due.network(NINE_COMPLEXES).complexes(), 9);
        due.is("none again", after("").complexes(), 0);
        due.sentence("Promise 8: the set of the species that occur, from none to all");
        due.is("none", new SiphonReport().occurring(), 0);
        due.is("all", Due.network(NINE_COMPLEXES).occurring(), 127);
        due.is("none again", after("").occurring(), 0);
        due.sentence("Promise 9: how many linkage classes, from none to the most");
        due.is("none", new SiphonReport().linkage(), 0);
        due.is("four", Due.network(NINE_COMPLEXES).linkage(), 4);
        due.is("none again", after("").linkage(), 0);
        due.sentence("Promise 11: how many strong classes, from none to the most");
        due.is("none", new SiphonReport().strong(), 0);
        due.is("nine", Due.network(NINE_COMPLEXES).strong(), 9);
        due.is("none again", after("").strong(), 0);
        due.sentence("Promise 13: the rank of all reactions, from none to the most");
        due.is("none", new SiphonReport().rank(), 0);
        due.is("seven", Due.network("0>A;0>B;0>C;0>D;0>E;0>F;0>G;0>A+B").rank(), 7);
        due.is("none again", after("").rank(), 0);
        due.sentence("Promise 15: how many minimal siphons, from none to the most");
        due.is("none", new SiphonReport().siphons(), 0);
        due.is("none though there are reactions", Due.network("0=A").siphons(), 0);
        due.is("28", Due.network(MOST_SIPHONS).siphons(), 28);
        due.is("none again", after("").siphons(), 0);
        due.sentence("Promise 18: how many minimal conserved sums, from none to the most");
        due.is("none", new SiphonReport().sums(), 0);
        due.is("none though there are reactions", Due.network("0=A").sums(), 0);
        due.is("14", Due.network(MOST_SUMS).sums(), 14);
        due.is("none again", after("").sums(), 0);
    }

    private static void firstAndLast(Due due) {
        SiphonReport x = Due.network(NINE_COMPLEXES);
        due.sentence("Promise 7: the number that a complex has for a species 0 (A) .. 6 (G)");
        due.is("coefficient(0, 0)", x.coefficient(0, 0), 1);
        due.is("coefficient(0, 6)", x.coefficient(0, 6), 0);
        due.is("coefficient(8, 0)", x.coefficient(8, 0), 0);
        due.is("coefficient(8, 6)", x.coefficient(8, 6), 4);
        due.sentence("Promise 10: the linkage class of a complex");
        due.is("classOf(0)", x.classOf(0), 0);
        due.is("classOf(7)", x.classOf(7), 3);
        due.is("classOf(8)", x.classOf(8), 0);
        due.sentence("Promise 12: whether a complex is in a terminal strong class");
        due.is("terminal(0)", x.terminal(0), false);
        due.is("terminal(8)", x.terminal(8), true);
        due.sentence("Promise 14: the deficiency of a linkage class, or, for -1, the network's");
        SiphonReport y = Due.network("A>B;2A>2B;G>2G;2G>3G;3G>4G");
        due.is("deficiency(-1)", y.deficiency(-1), 8 - 3 - 2);
        due.is("deficiency(0)", y.deficiency(0), 0);
        due.is("deficiency(2)", y.deficiency(2), 2);
        due.sentence("Promise 16: a minimal siphon, as a sum; numbered by growing sums");
        SiphonReport z = Due.network(MOST_SIPHONS);
        int[] sets = {7, 13, 14, 19, 22, 25, 26, 28, 35, 37, 38, 41, 42, 49, 52, 56, 67, 69, 73,
            74, 76, 81, 82, 84, 98, 100, 104, 112};
        for (int k = 0; k < sets.length; k++) {
            due.is("siphon(" + k + ")", z.siphon(k), sets[k]);
        }
        due.sentence("Promise 17: whether a minimal siphon holds the support of some sum");
        SiphonReport w = Due.network("A=2A;B>C;B>D;E+G=F+G");
        due.is("siphons()", w.siphons(), 4);
        due.is("conserved(0)", w.conserved(0), false);
        due.is("conserved(1)", w.conserved(1), false);
        due.is("conserved(2)", w.conserved(2), true);
        due.is("conserved(3)", w.conserved(3), true);
        due.sentence("Promise 19: the support of a minimal conserved sum; by growing supports");
        SiphonReport v = Due.network(MOST_SUMS);
        int[] supports = {19, 21, 25, 37, 38, 41, 42, 50, 73, 74, 76, 82, 84, 100};
        for (int k = 0; k < supports.length; k++) {
            due.is("support(" + k + ")", v.support(k), supports[k]);
        }
        due.sentence("Promise 20: the weight of a species 0 .. 6 in a minimal conserved sum");
        due.is("weight(0, 0)", v.weight(0, 0), 5);
        due.is("weight(0, 4)", v.weight(0, 4), 8);
        due.is("weight(0, 6)", v.weight(0, 6), 0);
        due.is("weight(12, 2)", v.weight(12, 2), 11);
        due.is("weight(13, 0)", v.weight(13, 0), 0);
        due.is("weight(13, 2)", v.weight(13, 2), 2);
        due.is("weight(13, 6)", v.weight(13, 6), 1);
    }

    private static void notOccurring(Due due) {
        due.sentence("Promise 20: 0 if the species does not occur");
        SiphonReport[] objects = {Due.network("C=D"), after("C=D")};
        for (SiphonReport x : objects) {
            for (int s = 0; s < 7; s++) {
                due.is("weight(0, " + s + ") of C=D", x.weight(0, s), s == 2 || s == 3 ? 1 : 0);
            }
        }
        due.sentence("Promise 20: 0 if the species occurs but is not in the support");
        SiphonReport y = Due.network("A=B;C=D;G>0");
        due.is("weight(0, 2)", y.weight(0, 2), 0);
        due.is("weight(1, 0)", y.weight(1, 0), 0);
        due.is("weight(1, 6)", y.weight(1, 6), 0);
    }

    private static void refusedOnes(Due due, String name, Supplier<SiphonReport> maker,
            int complexes, int linkages, int siphons, int sums) {
        due.sentence("How many there are in " + name);
        due.is("complexes()", maker.get().complexes(), complexes);
        due.is("linkage()", maker.get().linkage(), linkages);
        due.is("siphons()", maker.get().siphons(), siphons);
        due.is("sums()", maker.get().sums(), sums);
        noSuchComplex(due, name, maker, complexes);
        noSuchClass(due, name, maker.get(), linkages);
        noSuchSiphon(due, name, maker.get(), siphons);
        noSuchSum(due, name, maker, sums);
    }

    private static boolean isOneOf(int number, int count) {
        return number >= 0 && number < count;
    }

    private static void noSuchComplex(Due due, String name, Supplier<SiphonReport> maker,
            int complexes) {
        due.sentence("Promise 7: -1 when there is no such complex or species, in " + name);
        for (int n : NUMBERS) {
            SiphonReport x = maker.get();
            for (int m : NUMBERS) {
                boolean there = isOneOf(n, complexes) && isOneOf(m, 7);
                due.is("coefficient(" + n + ", " + m + ") < 0", x.coefficient(n, m) < 0, !there);
                due.is("coefficient(" + n + ", " + m + ") < -1", x.coefficient(n, m) < -1, false);
            }
        }
        due.sentence("Promise 10: -1 when there is no such complex, in " + name);
        SiphonReport y = maker.get();
        for (int n : NUMBERS) {
            due.is("classOf(" + n + ") == -1", y.classOf(n) == -1, !isOneOf(n, complexes));
        }
        due.sentence("Promise 12: false when there is no such complex, in " + name);
        for (int n : NUMBERS) {
            due.is("terminal(" + n + ") outside", y.terminal(n) && !isOneOf(n, complexes), false);
        }
    }

    private static void noSuchClass(Due due, String name, SiphonReport x, int linkages) {
        due.sentence("Promise 14: -1 when there is no such class, in " + name);
        for (int n : NUMBERS) {
            boolean there = n == -1 || isOneOf(n, linkages);
            due.is("deficiency(" + n + ") == -1", x.deficiency(n) == -1, !there);
        }
    }

    private static void noSuchSiphon(Due due, String name, SiphonReport x, int siphons) {
        due.sentence("Promise 16: 0 when there is none with that number, in " + name);
        for (int k : NUMBERS) {
            due.is("siphon(" + k + ") == 0", x.siphon(k) == 0, !isOneOf(k, siphons));
        }
        due.sentence("Promise 17: false when there is none with that number, in " + name);
        for (int k : NUMBERS) {
            due.is("conserved(" + k + ") outside", x.conserved(k) && !isOneOf(k, siphons), false);
        }
    }

    private static void noSuchSum(Due due, String name, Supplier<SiphonReport> maker, int sums) {
        due.sentence("Promise 19: 0 when there is none with that number, in " + name);
        SiphonReport x = maker.get();
        for (int k : NUMBERS) {
            due.is("support(" + k + ") == 0", x.support(k) == 0, !isOneOf(k, sums));
        }
        due.sentence("Promise 20: -1 when there is no such sum or no such species, in " + name);
        for (int k : NUMBERS) {
            SiphonReport y = maker.get();
            for (int s : NUMBERS) {
                boolean there = isOneOf(k, sums) && isOneOf(s, 7);
                due.is("weight(" + k + ", " + s + ") < 0", y.weight(k, s) < 0, !there);
                due.is("weight(" + k + ", " + s + ") < -1", y.weight(k, s) < -1, false);
            }
        }
    }
}
