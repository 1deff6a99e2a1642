/** Compares answers with those that are due, and ends a test with exit code 1 if one differs. */
final class Due {
    private final String test;
    private int asked = 0;
    private int wrong = 0;

    Due(String test) {
        this.test = test;
    }

    void is(String what, long got, long want) {
        asked++;
        if (got != want) {
            wrong++;
            System.out.println(test + ": " + what + " answered " + got + ", due is " + want);
        }
    }

    void is(String what, boolean got, boolean want) {
        is(what, got ? 1 : 0, want ? 1 : 0);
    }

    void end() {
        System.out.println(test + ": " + asked + " answers, " + wrong + " wrong");
        if (wrong != 0 || asked == 0) {
            System.exit(1);
        }
    }

    /** A new object with a text typed, not read. */
    static SiphonReport typed(String text) {
        SiphonReport x = new SiphonReport();
        typeOn(x, text);
        return x;
    }

    /** A new object that has read a text. */
    static SiphonReport network(String text) {
        SiphonReport x = typed(text);
        x.read();
        return x;
    }

    static int readOf(String text) {
        return typed(text).read();
    }

    static void retype(SiphonReport x, String text) {
        x.clear();
        typeOn(x, text);
    }

    static void typeOn(SiphonReport x, String text) {
        for (int i = 0; i < text.length(); i++) {
            x.type(text.charAt(i));
        }
    }
}
