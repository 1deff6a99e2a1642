/** Promises 2 and 3, and of promise 4 which texts are right. */
public final class TextTest {
    public static void main(String[] args) {
        Due due = new Due("TextTest");
        typeTakesCodes(due);
        typeStopsAtHundred(due);
        clearEmpties(due);
        rightTexts(due);
        wrongTexts(due);
        readKeepsText(due);
        due.end();
    }

    private static void typeTakesCodes(Due due) {
        for (int code = 0; code < 300; code++) {
            boolean want = code >= 32 && code <= 126;
            due.is("type of code " + code, new SiphonReport().type((char) code), want);
        }
        due.is("type of code 65535", new SiphonReport().type((char) 65535), false);
        SiphonReport x = Due.typed("A>");
        x.type((char) 31);
        x.type((char) 127);
        x.type((char) (256 + 'C'));
        Due.typeOn(x, "B");
        due.is("read() after refused signs", x.read(), 1);
    }

    private static void typeStopsAtHundred(Due due) {
        SiphonReport x = new SiphonReport();
        for (int i = 0; i < 97; i++) {
            due.is("type of sign " + i, x.type(' '), true);
        }
        due.is("type('A')", x.type('A'), true);
        due.is("type('>')", x.type('>'), true);
        due.is("type('B') as sign 100", x.type('B'), true);
        due.is("type of sign 101", x.type('?'), false);
        due.is("read() of 100 signs", x.read(), 1);
        x.clear();
        due.is("type after clear", x.type('?'), true);
        SiphonReport y = new SiphonReport();
        for (int i = 0; i < 25; i++) {
            Due.typeOn(y, "A>B;");
        }
        due.is("read() of 100 signs that end too early", y.read(), -101);
        SiphonReport z = new SiphonReport();
        for (int i = 0; i < 51; i++) {
            Due.typeOn(z, "A+");
        }
        due.is("read() of a side of 100 signs", z.read(), -101);
    }

    private static void clearEmpties(Due due) {
        SiphonReport x = Due.typed("A>?");
        x.clear();
        due.is("read() after clear", x.read(), 0);
        Due.typeOn(x, "A=B");
        due.is("read() of what came after clear", x.read(), 2);
        x.clear();
        x.clear();
        due.is("reactions() after clear", x.reactions(), 2);
        due.is("read() after two clears", x.read(), 0);
        due.is("reactions() after that read", x.reactions(), 0);
    }

    private static void rightTexts(Due due) {
        due.is("read() of nothing", Due.readOf(""), 0);
        due.is("read() of spaces", Due.readOf("   "), 0);
        due.is("A>B", Due.readOf("A>B"), 1);
        due.is("G=0", Due.readOf("G=0"), 2);
        due.is("0>A", Due.readOf("0>A"), 1);
        due.is("4A>B", Due.readOf("4A>B"), 1);
        due.is("spaces everywhere", Due.readOf("  2 A  + B =  0 ;  A > 3 C "), 3);
        due.is("three lines", Due.readOf("A>B;B>C;C>A"), 3);
    }

    private static void wrongTexts(Due due) {
        String[] texts = {
            ";", "H>A", "a>B", ">A", "=A", "+A>B", "?", "A", "A ", "A>", "A> ", "A>B;", "A>B; ",
            "A>B;;", "A>B;C", "AB>C", "A>BC", "A2>B", "12A>B", "00>A", "A>00", "0A>B", "A>0A",
            "0+A>B", "A+0>B", "A>0+B", "A>B+0", "2>A", "2 0", "20A>B", "A>2", "A>2;", "A>B>C",
            "A=B=C", "A>=B", "A>B;>C", "A+>B", "A++B>C", "A>B+", "A>B+;", "A;B", "0;", "A>B;0",
            "A > B ; C ! D", "   ;", "   @", "A>B C", "10A>B", "A>B=", "A>0;0>0A", "A>@", "A>H",
        };
        int[] begun = {
            0, 0, 0, 0, 0, 0, 0, 1, 2, 2, 3, 4, 5,
            4, 5, 1, 3, 1, 1, 1, 3, 1, 3,
            1, 2, 3, 4, 1, 2, 1, 3, 3, 3,
            3, 2, 4, 2, 2, 4, 4, 1, 1, 5,
            10, 3, 3, 4, 1, 3, 7, 2, 2,
        };
        due.is("texts and places", texts.length, begun.length);
        for (int i = 0; i < texts.length && i < begun.length; i++) {
            due.is("read() of [" + texts[i] + "]", Due.readOf(texts[i]), -1 - begun[i]);
        }
    }

    private static void readKeepsText(Due due) {
        SiphonReport x = Due.typed("A>B");
        due.is("read()", x.read(), 1);
        due.is("read() again", x.read(), 1);
        Due.typeOn(x, "+C;");
        due.is("read() of a text that grew", x.read(), -7);
        due.is("read() of it again", x.read(), -7);
        Due.typeOn(x, "C=A");
        due.is("read() when it is right again", x.read(), 3);
        due.is("coefficient(1, 2)", x.coefficient(1, 2), 1);
    }
}
