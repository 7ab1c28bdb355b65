/** Promises 12 to 14: THE TAPE, TEXTS, their FAULTS, what they work out. */
public final class TextsTest {
    public static void main(String[] args) {
        tape();
        uses();
        faults();
        faultsOfOffers();
        opened();
        values();
        Due.end();
    }

    private static void tape() {
        GorgeRocks x = new GorgeRocks();
        Due.is(12, "feed 0", x.feed(0, 0), Due.BEYOND);
        Due.is(12, "feed 9", x.feed(0, 9), Due.BEYOND);
        Due.is(12, "feed -1", x.feed(0, -1), Due.BEYOND);
        for (int i = 1; i <= 7; i++) {
            Due.is(12, "feed", x.feed(-1L, 8), 8 * i);
        }
        Due.is(12, "FULL by one", x.feed(0, 5), Due.FULL);
        Due.is(12, "count(6)", x.count(6), 56);
        Due.is(12, "all 60", x.feed(0, 4), 60);
        Due.is(12, "FULL", x.feed(0, 1), Due.FULL);
        Due.is(12, "FULL, BEYOND", x.feed(0, 9), Due.BEYOND);
        Due.is(13, "text(2)", x.text(2), Due.BEYOND);
        Due.is(13, "text(-1)", x.text(-1), Due.BEYOND);
        Due.is(13, "THE TAPE stays", x.count(6), 60);
        Due.is(13, "a FAULT", x.text(0), -10);
        Due.is(13, "THE TAPE is empty", x.count(6), 0);
        Due.is(12, "the lowest first", x.feed('7' | '+' << 8 | '9' << 16 | (long) '*' << 24
                | (long) 's' << 32 | (long) '-' << 40 | (long) '1' << 48 | (long) '5' << 56, 8), 8);
        Due.is(13, "text(0)", x.text(0), 1);
        int c = Due.call(x, 2);
        x.rock(60, 0);
        Due.is(13, "7+9*s-15 of 3", x.heard(c, 1, 0), 19);
    }

    private static void uses() {
        GorgeRocks x = new GorgeRocks();
        int c = Due.call(x, 40, 7);
        x.rock(60, 0);
        Due.is(14, "untell", x.untell(0), 0);
        Due.is(13, "text", Due.text(x, 0, "5"), 1);
        Due.heard(13, x, c, 1, 5, 5);
        Due.is(13, "in place of one ahead", Due.text(x, 0, "7"), 1);
        Due.heard(13, x, c, 1, 7, 7);
        int errors = x.told(1);
        Due.is(13, "a FAULT", Due.text(x, 0, "5+"), -12);
        Due.is(13, "is no ERROR", x.told(1), errors);
        Due.heard(13, x, c, 1, 7, 7);
        Due.is(14, "the other USE", x.untell(1), 0);
        Due.is(14, "untell(2)", x.untell(2), Due.BEYOND);
        Due.is(14, "untell(-1)", x.untell(-1), Due.BEYOND);
        Due.is(14, "untell", x.untell(0), 1);
        Due.is(14, "untell again", x.untell(0), 0);
        Due.heard(14, x, c, 1, 40, 6);
        Due.is(13, "OFFERS", Due.text(x, 1, "o"), 1);
        Due.is(14, "OFFERS", x.untell(1), 1);
    }

    private static void fault(int use, String text, int place) {
        GorgeRocks x = new GorgeRocks();
        Due.is(13, "text of " + text, Due.text(x, use, text), place < 0 ? 1 : -10 - place);
        Due.is(13, "THE TAPE behind " + text, x.count(6), 0);
        Due.is(13, "there is a TEXT by " + text, x.untell(use), place < 0 ? 1 : 0);
    }

    private static void faults() {
        fault(0, "", 0);
        fault(0, "s", -1);
        fault(0, "sinm", 1);
        fault(0, "s+i+n+m", -1);
        fault(0, "o", 0);
        fault(0, "1+h", 2);
        fault(0, "1234", -1);
        fault(0, "12345", 4);
        fault(0, "0000", -1);
        fault(0, "1s", 1);
        fault(0, "s1", 1);
        fault(0, "1 +2", 1);
        fault(0, "-1", 0);
        fault(0, "1--1", 2);
        fault(0, "1<2", -1);
        fault(0, "1<2<3", 3);
        fault(0, "1=2>3", 3);
        fault(0, "(1<2)<3", -1);
        fault(0, "1<2&3=4|5>6", -1);
        fault(0, "1<", 2);
        fault(0, "1<=2", 2);
        fault(0, "(", 1);
        fault(0, "(1", 2);
        fault(0, "(1s", 2);
        fault(0, "()", 1);
        fault(0, "1)", 1);
        fault(0, "(1))", 3);
        fault(0, "!", 1);
        fault(0, "!!s", -1);
        fault(0, "!)", 1);
        fault(0, "s!", 1);
        fault(0, "s|", 2);
        fault(0, "s&&s", 2);
        fault(0, "s*/s", 2);
        fault(0, "s%s/s*s", -1);
        fault(0, "S", 0);
        fault(0, "s" + (char) 200, 1);
        fault(0, "s" + (char) 0, 1);
        fault(0, "s+s+s+s+s+s+s+s+s+s+s+s+s+s+s+s+s+s+s+s+s+s+s+s+s+s+s+s+s+s+", 60);
        fault(0, "s+s+s+s+s+s+s+s+s+s+s+s+s+s+s+s+s+s+s+s+s+s+s+s+s+s+s+s+s+ss", 59);
        fault(0, "s+s+s+s+s+s+s+s+s+s+s+s+s+s+s+s+s+s+s+s+s+s+s+s+s+s+s+s+s+12", -1);
    }

    private static void faultsOfOffers() {
        fault(1, "o+h*b-t", -1);
        fault(1, "s", 0);
        fault(1, "o+m", 2);
    }

    private static void opened() {
        fault(0, "!!!!!s", -1);
        fault(0, "!!!!!!s", 5);
        fault(0, "(((((s)))))", -1);
        fault(0, "((((((s))))))", 5);
        fault(0, "!(!(!s))", -1);
        fault(0, "!(!(!(s)))", 5);
        fault(0, "!!!!!s+!!!!!s", -1);
        fault(0, "(((((s)))))*(((((s)))))", -1);
        fault(0, "((((!s+!s))))", -1);
        fault(0, "((((!s+!!s))))", 8);
        fault(0, "!!!!!1", -1);
        fault(0, "!!!!!+", 5);
    }

    /** What a TEXT works out for SOUND s (a NUMBER, so NAY leaves it), place 1 of 3, m 4; 60 if it is no SOUND. */
    private static void value(String text, int s, int want) {
        GorgeRocks x = new GorgeRocks();
        int c = Due.call(x, 40, s, 40);
        x.rock(64, 0);
        Due.is(13, "text " + text, Due.text(x, 0, text), 1);
        Due.is(13, text + " of " + s, x.heard(c, 1, 1), want);
    }

    private static void values() {
        value("s", 77, 77);
        value("i", 77, 1);
        value("n", 77, 3);
        value("m", 77, 4);
        value("s-50-20", 77, 7);
        value("2+3*4", 60, 14);
        value("(2+3)*4", 60, 20);
        value("20-5-3", 60, 12);
        value("48/4/3", 60, 4);
        value("7/2*2", 60, 6);
        value("7%4*3", 60, 9);
        value("(0-7)/2+10", 60, 7);
        value("(0-7)%4+10", 60, 7);
        value("9/0+1", 60, 1);
        value("9%0+2", 60, 2);
        value("1<2", 60, 1);
        value("2<1", 60, 0);
        value("2<2", 60, 0);
        value("2=2", 60, 1);
        value("2=3", 60, 0);
        value("3>2", 60, 1);
        value("2>2", 60, 0);
        value("1+1=2", 60, 1);
        value("5&7", 60, 1);
        value("5&0", 60, 0);
        value("0|7", 60, 1);
        value("0|0", 60, 0);
        value("1|0&0", 60, 1);
        value("(1|0)&0", 60, 0);
        value("1<2&3", 60, 1);
        value("!7", 60, 0);
        value("!0", 60, 1);
        value("!!7", 60, 1);
        value("!0+4", 60, 5);
        value("!0*9", 60, 9);
        value("!s*9+3", 60, 3);
        value("0012", 60, 12);
        value("9999*9999*9999*0+53", 60, 53);
        value("(8192*8192*32<0)+20", 60, 21);
        value("8192*8192*64", 60, 0);
        value("54", 61, 60);
        value("59", 61, 60);
        value("100", 61, 60);
        value("99", 61, 99);
        value("0-1", 61, 60);
        value("53", 61, 53);
    }
}
