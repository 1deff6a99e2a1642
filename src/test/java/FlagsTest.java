/** Promise 21: each of the five flags, alone where it can be, and its edges. */
public final class FlagsTest {
    public static void main(String[] args) {
        Due due = new Due("FlagsTest");
        flagsAre(due, "", 31);
        flagsAre(due, "A=B", 31);
        flagsAre(due, "A>B;B>C;C>A", 31);
        flagsAre(due, "0=A", 1 + 2 + 4 + 8);
        flagsAre(due, "A>0", 4);
        flagsAre(due, "0>A", 4 + 8);
        flagsAre(due, "A>B", 4 + 16);
        // One strong class each, but a deficiency of 1.
        flagsAre(due, "A=2A;2A=3A", 1 + 4);
        // One strong class each, but a deficiency of 2 in one class.
        flagsAre(due, "A=2A;2A=3A;3A=4A", 1);
        // Deficiencies of 0 that don't add up to the network's 1.
        flagsAre(due, "A=B;2A=2B", 1 + 8 + 16);
        // Two terminal strong classes in one linkage class.
        flagsAre(due, "A>B;A>C", 16);
        // Two terminal classes in the second linkage class only.
        flagsAre(due, "A=B;C>D;C>E", 16);
        // The terminal class has two complexes: it is still one.
        flagsAre(due, "A>B;B=C", 4 + 16);
        // Deficiency 1 in one linkage class that has one terminal class.
        flagsAre(due, "2A>A+B;A+B>2B", 4 + 16);
        // A siphon without a sum beside one with a sum.
        flagsAre(due, "A=B;C=2C", 1 + 2 + 4);
        // Every siphon conserved, but not every species.
        flagsAre(due, "A=B;0=C", 1 + 2 + 4 + 8);
        flagsAre(due, "A+E=F;F>B+E;B+G=C;C>A+G", 8 + 16);
        // Deficiency 1 in each of two linkage classes, adding up to 2.
        flagsAre(due, "A=2A;2A=3A;B=2B;2B=3B", 1 + 4);
        due.end();
    }

    private static void flagsAre(Due due, String text, int want) {
        due.is("flags() of [" + text + "]", Due.network(text).flags(), want);
        SiphonReport x = Due.network("A>B;A>C;0>D");
        Due.retype(x, text);
        x.read();
        due.is("flags() of [" + text + "] after another network", x.flags(), want);
    }
}
