/** Compares answers with those that are due, and ends a test with exit code 1 if one differs. */
final class Due {
    private final String test;
    private String sentence = "";
    private int askedOfSentence = 1;
    private int asked = 0;
    private int wrong = 0;

    Due(String test) {
        this.test = test;
    }

    /** The document's sentence that the answers from here on are about; each must get some. */
    void sentence(String words) {
        refuseEmptySentence();
        sentence = "[" + words + "] ";
        askedOfSentence = 0;
    }

    void is(String what, long got, long want) {
        is(what, String.valueOf(got), String.valueOf(want));
    }

    void is(String what, boolean got, boolean want) {
        is(what, String.valueOf(got), String.valueOf(want));
    }

    void is(String what, String got, String want) {
        asked++;
        askedOfSentence++;
        if (!got.equals(want)) {
            wrong++;
            System.out.println(test + ": " + sentence + what + " answered " + got + ", due is "
                + want);
        }
    }

    /** What a new object answers when it reads a text. */
    void reads(String text, int want) {
        is("read() of \"" + text + "\"", readOf(text), want);
    }

    void end() {
        refuseEmptySentence();
        System.out.println(test + ": " + asked + " answers, " + wrong + " wrong");
        if (wrong != 0 || asked == 0) {
            System.exit(1);
        }
    }

    private void refuseEmptySentence() {
        if (askedOfSentence == 0) {
            wrong++;
            System.out.println(test + ": " + sentence + "nothing was asked");
        }
    }

    /** A new object with a text typed, not read. */
    static SiphonReport typed(String text) {
        SiphonReport x = new SiphonReport();
        typeOn(x, text);
        return x;
    }

    /** A new object that has read a text. */
    static SiphonReport network(String text) {
        SiphonReport x = typed(text);
        x.read();
        return x;
    }

    static int readOf(String text) {
        return typed(text).read();
    }

    static void retype(SiphonReport x, String text) {
        x.clear();
        typeOn(x, text);
    }

    static void typeOn(SiphonReport x, String text) {
        for (int i = 0; i < text.length(); i++) {
            x.type(text.charAt(i));
        }
    }

    static void readAnew(SiphonReport x, String text) {
        retype(x, text);
        x.read();
    }

    /** All that an object reports on its network, and what it answers just outside it. */
    static String reports(SiphonReport x) {
        StringBuilder b = new StringBuilder();
        tell(b, x.reactions(), x.complexes(), x.occurring(), x.linkage(), x.strong(), x.rank(),
            x.siphons(), x.sums(), x.flags());
        for (int i = 0; i <= x.complexes(); i++) {
            tell(b, x.classOf(i), x.terminal(i) ? 1 : 0);
            for (int s = 0; s < 7; s++) {
                tell(b, x.coefficient(i, s));
            }
        }
        for (int i = -1; i <= x.linkage(); i++) {
            tell(b, x.deficiency(i));
        }
        for (int k = 0; k <= x.siphons(); k++) {
            tell(b, x.siphon(k), x.conserved(k) ? 1 : 0);
        }
        for (int k = 0; k <= x.sums(); k++) {
            tell(b, x.support(k));
            for (int s = 0; s < 7; s++) {
                tell(b, x.weight(k, s));
            }
        }
        return b.toString();
    }

    private static void tell(StringBuilder b, int... answers) {
        for (int answer : answers) {
            b.append(answer).append(' ');
        }
    }
}
