/** Promises 1 to 3, and of promise 4 what is answered to a text that is not right. */
public final class EdgeTextTest {
    private static final String SIDE_OF_100 = "A+".repeat(50);

    public static void main(String[] args) {
        Due due = new Due("EdgeTextTest");
        newObject(due);
        codes(due);
        refusedCodes(due);
        fullText(due);
        clear(due);
        places(due);
        longTexts(due);
        rightBeforeFaults(due);
        readKeepsText(due);
        due.end();
    }

    private static void newObject(Due due) {
        due.sentence("Promise 1: an empty text");
        due.is("read() as the first call", new SiphonReport().read(), 0);
        SiphonReport x = new SiphonReport();
        Due.typeOn(x, "A>B");
        due.is("read() of what alone was typed", x.read(), 1);
        SiphonReport y = new SiphonReport();
        for (int i = 1; i <= 101; i++) {
            due.is("type as call " + i, y.type('B'), i <= 100);
        }
        due.sentence("Promise 1: a network without reactions");
        SiphonReport z = new SiphonReport();
        due.is("reactions()", z.reactions(), 0);
        due.is("complexes()", z.complexes(), 0);
        due.is("all reports", Due.reports(z), "0 0 0 0 0 0 0 0 31 " + "-1 0 "
            + "-1 ".repeat(7) + "0 -1 " + "0 0 " + "0 " + "-1 ".repeat(7));
    }

    private static void codes(Due due) {
        due.sentence("Promise 2: true when its code is 32 .. 126, false when it is not");
        for (int code = Character.MIN_VALUE; code <= Character.MAX_VALUE; code++) {
            boolean want = code >= 32 && code <= 126;
            due.is("type of code " + code, new SiphonReport().type((char) code), want);
        }
        due.sentence("Promise 2: appends the character, whatever it is");
        for (int code = 33; code <= 126; code++) {
            boolean begins = "ABCDEFG0123456789".indexOf(code) >= 0;
            due.is("read() of code " + code, Due.readOf("" + (char) code), begins ? -2 : -1);
        }
        due.reads(" ", 0);
        due.is("in order", Due.network("A>2B").coefficient(1, 1), 2);
    }

    private static void refusedCodes(Due due) {
        due.sentence("Promise 2: changing nothing, when its code is not 32 .. 126");
        // Codes that would be a right character if they were cut to seven or eight bits are there.
        int[] refused = {0, 9, 10, 31, 127, 128, 128 + 'A', 255, 256, 256 + 'A', 512 + ' ',
            32768 + '>', 65279, 65535};
        for (int code : refused) {
            SiphonReport x = Due.typed("A>");
            due.is("type of code " + code, x.type((char) code), false);
            due.is("read() before more", x.read(), -3);
            Due.typeOn(x, "B");
            due.is("read() after code " + code, x.read(), 1);
            due.is("type of it again", x.type((char) code), false);
            due.is("coefficient(1, 1)", x.coefficient(1, 1), 1);
            due.is("read() again", x.read(), 1);
        }
        SiphonReport y = new SiphonReport();
        for (int i = 0; i < 300; i++) {
            y.type((char) 127);
        }
        for (int i = 1; i <= 101; i++) {
            due.is("type of sign " + i + " after refused ones", y.type(' '), i <= 100);
        }
    }

    private static void fullText(Due due) {
        due.sentence("Promise 2: false, changing nothing, when 100 are there");
        SiphonReport x = Due.network("C=D");
        Due.retype(x, " ".repeat(96));
        String reports = Due.reports(x);
        for (char c : "A>2B".toCharArray()) {
            due.is("type of " + c + " up to the 100th", x.type(c), true);
        }
        for (int code = 32; code <= 126; code++) {
            due.is("type of code " + code + " as the 101st", x.type((char) code), false);
        }
        due.is("type of code 31 as the 101st", x.type((char) 31), false);
        due.is("reports after refused signs", Due.reports(x), reports);
        due.is("read() of the first 100", x.read(), 1);
        due.is("coefficient(1, 1)", x.coefficient(1, 1), 2);
        due.is("type after read()", x.type(' '), false);
        due.is("99 are there", Due.typed(" ".repeat(99)).type(' '), true);
        due.is("spaces count too", Due.typed(" ".repeat(100)).type(' '), false);
    }

    private static void clear(Due due) {
        due.sentence("Promise 3: makes the text empty");
        SiphonReport x = new SiphonReport();
        x.clear();
        due.is("read() after clear() of nothing", x.read(), 0);
        Due.typeOn(x, "?".repeat(100));
        due.is("read() of a full text", x.read(), -1);
        x.clear();
        due.is("read() after clear() of a full text", x.read(), 0);
        for (int i = 1; i <= 101; i++) {
            due.is("type " + i + " after clear()", x.type('A'), i <= 100);
        }
        x.clear();
        x.clear();
        Due.typeOn(x, "B=C");
        due.is("read() of what came after two clears", x.read(), 2);
        due.sentence("Promise 3: makes nothing but the text empty");
        String reports = Due.reports(x);
        x.clear();
        due.is("reports after clear()", Due.reports(x), reports);
    }

    private static void places(Due due) {
        due.sentence("Promise 4: p from 0 to the text's length");
        for (int length = 1; length <= 100; length++) {
            String spaces = " ".repeat(length - 1);
            due.reads(spaces + "A", -1 - length);
            due.reads(spaces + "?", -length);
            due.reads("?" + spaces, -1);
            due.reads("A" + spaces, -1 - length);
        }
        due.sentence("Promise 4: the first p characters are the beginning of some right text");
        for (int p = 0; p < 100; p++) {
            String text = SIDE_OF_100.substring(0, p) + "?" + SIDE_OF_100.substring(p + 1);
            due.reads(text, -1 - p);
        }
        String right = "2A + B > 0 ; C = 3D";
        for (int p = 0; p <= right.length(); p++) {
            due.reads(right.substring(0, p) + "?", -1 - p);
            due.reads(right.substring(0, p) + "?" + right, -1 - p);
        }
        due.sentence("Promise 4: the greatest such p, spaces after the last sign too");
        due.reads("A  ", -4);
        due.reads("A  ?", -4);
        due.reads("A>B;   ", -8);
        due.reads("  H", -3);
    }

    private static void longTexts(Due due) {
        due.sentence("Promise 4: some right text of whatever length");
        due.reads(SIDE_OF_100, -101);
        due.reads("A>B;".repeat(25), -101);
        due.reads("A>B;".repeat(24) + "A>B+", -101);
        due.reads("A>B;".repeat(24) + "A>2 ", -101);
        due.reads("A>B;".repeat(24) + "A+2B", -101);
        due.reads("A>B;".repeat(24) + " A =", -101);
        due.reads(" ".repeat(99) + "0", -101);
        due.reads("A>B;".repeat(24) + "A>B>", -100);
    }

    private static void rightBeforeFaults(Due due) {
        due.sentence("Promise 4: a text that is not right is told before any fault");
        due.reads("9A", -3);
        due.reads("9A+9A+", -7);
        due.reads("5A>B;", -6);
        due.reads("A>A;?", -5);
        due.reads("A>B;C>D;E>F;G>0;2A>2B;", -23);
        due.reads("A=B;A=C;A=D;A=E;A=F;A=G;H", -25);
        due.sentence("Promise 4: a fault does not end the beginning of a right text");
        due.reads("0>9A+9A", SiphonReport.HIGH);
        due.reads("A>A;A>A;B>C", SiphonReport.SAME);
    }

    private static void readKeepsText(Due due) {
        due.sentence("Promise 4: reads the text, which stays as it is");
        String[] texts = {"", "  ", "A>B", "A", "?", "9A>B", "A>A", "A>B;C>D;E>F;G>0;2A>2B",
            "A=B;A=C;A=D;A=E;A=F;A=G", " ".repeat(97) + "A>B", SIDE_OF_100};
        for (String text : texts) {
            SiphonReport x = Due.typed(text);
            int first = x.read();
            due.is("read() again of \"" + text + "\"", x.read(), first);
            due.is("type after read()", x.type('?'), text.length() < 100);
            due.is("read() of a longer text", x.read(), Due.readOf(text + "?"));
        }
        SiphonReport y = new SiphonReport();
        int[] want = {-2, -3, 1, -5, -6, 1};
        for (int i = 0; i < want.length; i++) {
            y.type("A>B+2C".charAt(i));
            due.is("read() after sign " + i, y.read(), want[i]);
        }
    }
}
