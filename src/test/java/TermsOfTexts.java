/** The terms' number 2 (TEXTS, USES), sentence by sentence. */
final class TermsOfTexts {
    private final Doc doc;

    TermsOfTexts(Doc doc) {
        this.doc = doc;
    }

    void all() {
        tape();
        joined();
        reckoned();
        parts();
        ints();
        truths();
        faults();
        turns();
        offers();
    }

    /** What TURNS make of the SOUND 80 that stands alone, over ROCK 0 of m 3. */
    static void gives(String text, int due) {
        GorgeRocks x = new GorgeRocks();
        int c = Due.call(x, 80);
        x.rock(63, 0);
        Due.is("text " + text, Due.text(x, 0, text), 1);
        Due.is(text, x.heard(c, 1, 0), due);
    }

    static void fault(String text, int place) {
        fault(0, text, place);
    }

    private static void fault(int use, String text, int place) {
        GorgeRocks x = new GorgeRocks();
        Due.is("FAULT of " + text, Due.text(x, use, text), -10 - place);
        Due.is("no TEXT by " + text, x.untell(use), 0);
    }

    private void tape() {
        doc.terms("TEXTS are read from THE TAPE (bytes, at most 60):", () -> {
            gives("0" + "+1".repeat(29), 29);
            gives("0" + "+1".repeat(28) + "+2", 30);
            gives("10" + "+1".repeat(29), 39);
            gives("!s" + "+1".repeat(29), 29);
            GorgeRocks x = new GorgeRocks();
            Due.feed(x, "1+".repeat(29) + "10");
            Due.is("60 bytes", x.count(6), 60);
            Due.is("a 61st", x.feed('0', 1), Due.FULL);
            Due.is("60 are one TEXT", x.text(0), 1);
            Due.is("THE TAPE is empty", x.text(0), -10);
            Due.feed(x, "s");
            x.feed(0L, 1);
            Due.is("a byte 0 is a byte", x.text(0), -11);
            x.feed(0xffL << 8 | 's', 2);
            Due.is("a byte 255 is a byte", x.text(0), -11);
            x.feed((long) ('s' | 128), 1);
            Due.is("all 8 bits count", x.text(0), -10);
        });
    }

    private void joined() {
        doc.terms("T: A { | A }.", () -> {
            gives("5|0", 1);
            gives("0|0", 0);
            gives("0|0|0|0|4", 1);
            gives("1|1&0", 1);
            gives("0&1|1", 1);
            fault("|1", 0);
            fault("1|", 2);
            fault("1||1", 2);
        });
        doc.terms("A: B { & B }.", () -> {
            gives("5&4", 1);
            gives("5&0", 0);
            gives("1&1&1&0", 0);
            gives("0&1<2", 0);
            gives("0&0=0", 0);
            fault("&1", 0);
            fault("1&", 2);
            fault("1&&1", 2);
            fault("1&|1", 2);
        });
        doc.terms("B: S, or S < S, S = S, S > S.", () -> {
            int[][] due = {{1, 0, 0}, {0, 1, 0}, {0, 0, 1}};
            String[] pairs = {"3?4", "4?4", "5?4"};
            for (int i = 0; i < 3; i++) {
                for (int sign = 0; sign < 3; sign++) {
                    gives(pairs[i].replace('?', "<=>".charAt(sign)), due[i][sign]);
                }
            }
            gives("7", 7);
            gives("1+1=2", 1);
            gives("5-1<5-2", 0);
            gives("1<2&2<3&3<4", 1);
            gives("(1<2)=(2<3)", 1);
            // One S < S is all that a B has.
            fault("1<2<3", 3);
            fault("1=1=1", 3);
            fault("1>0=1", 3);
            fault("0&1<2>1", 5);
            fault("(1<2=1)", 4);
            fault("<1", 0);
            fault("1=", 2);
            fault("1==1", 2);
            fault("1<=1", 2);
        });
    }

    private void reckoned() {
        doc.terms("S: P { + P, - P }.", () -> {
            gives("9-4-3", 2);
            gives("9-4+3", 8);
            gives("1+2+3+4", 10);
            gives("9-2*3", 3);
            fault("+1", 0);
            fault("-1", 0);
            fault("1+", 2);
            fault("1-", 2);
            fault("1+-1", 2);
            fault("1--1", 2);
        });
        doc.terms("P: Q { * Q, / Q, % Q }.", () -> {
            gives("2+3*4", 14);
            gives("7%4*2", 6);
            gives("8/4*2", 4);
            gives("9*5/2", 22);
            gives("8/2%3", 1);
            gives("2*7%4", 2);
            gives("2*3*4", 24);
            fault("*1", 0);
            fault("/1", 0);
            fault("%1", 0);
            fault("1*", 2);
            fault("1*/1", 2);
            fault("1%%1", 2);
        });
    }

    private void parts() {
        doc.terms("Q: a NUMBER of 1 to 4 digits, a NAME, ! Q, ( T ).", () -> {
            gives("0", 0);
            gives("0099", 99);
            gives("9999-9900", 99);
            fault("10000", 4);
            fault("00000", 4);
            fault("1+12345", 6);
            gives("s", 80);
            gives("m", 3);
            fault("ss", 1);
            fault("5s", 1);
            fault("s5", 1);
            gives("!0", 1);
            gives("!!7", 1);
            gives("!0+1", 2);
            gives("!0*5", 5);
            gives("!(1-1)", 1);
            fault("!", 1);
            fault("5!", 1);
            fault("!+1", 1);
            gives("(7)", 7);
            gives("2*(3+4)", 14);
            gives("(1|0)+(1&1)", 2);
            fault("()", 1);
            fault("(7", 2);
            fault("7)", 1);
            fault("(7))", 3);
            fault("(7)7", 3);
            fault("7(7)", 1);
        });
        doc.terms("No blanks.", () -> {
            fault(" 7", 0);
            fault("7 ", 1);
            fault("7 +7", 1);
            fault("7+ 7", 2);
            fault("7 7", 1);
            fault("( 7)", 1);
            fault("7\t", 1);
            fault("7\n", 1);
        });
        doc.terms("At most 5 of ! and ( are open at once.", () -> {
            gives("(((((7)))))", 7);
            fault("((((((7", 5);
            gives("!!!!!7", 0);
            fault("!!!!!!7", 5);
            gives("(!(!(7)))", 1);
            fault("(!(!(!7", 5);
            fault("(!(!((7", 5);
            // Those that have closed do not count any more.
            gives("!7+!!!!!0+(((((7)))))+!!!!!7", 8);
            gives("((((!7))+!!!0))", 1);
            gives("((((!7+!7+!0))))", 1);
            fault("((((!7+!!7", 8);
            gives("((((7)+(7))))", 14);
            // A ! is open as long as its Q goes on.
            fault("!(((((7", 5);
            gives("!((((7))))", 0);
            gives("!((((7))))+(((((8)))))", 8);
            // With 5 open a Q must come all the same.
            fault("!!!!!", 5);
            fault("((((()))))", 5);
            fault("(((((+7)))))", 5);
            fault("!!!!!*7", 5);
            fault("((((!)))) ", 5);
        });
    }

    private void ints() {
        doc.terms("Ints that wrap;", () -> {
            gives("9999*9999*21>0", 1);
            gives("9999*9999*22<0", 1);
            gives("9999*9999*21+9999*9999<0", 1);
            gives("0-9999*9999*21-9999*9999>0", 1);
            gives("8192*8192*64", 0);
            gives("8192*8192*64+9", 9);
            gives("8192*8192*32=0-8192*8192*32", 1);
        });
        doc.terms("/ cut, % the rest that it leaves, both by 0 are 0;", () -> {
            gives("99/10", 9);
            gives("99%10", 9);
            gives("20+(0-17)/5", 17);
            gives("20+17/(0-5)", 17);
            gives("20+(0-17)/(0-5)", 23);
            gives("20+(0-17)%5", 18);
            gives("20+17%(0-5)", 22);
            gives("20+(0-17)%(0-5)", 18);
            gives("7+5/0", 7);
            gives("7+5%0", 7);
            gives("7+0/0", 7);
            gives("7+0%0", 7);
            gives("8192*8192*32/(0-1)<0", 1);
            gives("8192*8192*32%(0-1)", 0);
        });
    }

    private void truths() {
        doc.terms("| & < = > ! are 1 or 0, what is not 0 being true; all is worked out.", () -> {
            gives("7|0", 1);
            gives("0|7", 1);
            gives("8|7", 1);
            gives("(0-1)|0", 1);
            gives("8&7", 1);
            gives("(0-1)&(0-2)", 1);
            gives("0&7", 0);
            gives("7&0", 0);
            gives("!7", 0);
            gives("!(0-1)", 0);
            gives("!0", 1);
            gives("3<9", 1);
            gives("9>3", 1);
            gives("9=9", 1);
            gives("0-1<0", 1);
            gives("1|5/0", 1);
            gives("0&5%0", 0);
            gives("0|9&9", 1);
        });
    }

    private void faults() {
        doc.terms("FAULT: the place of the first byte with which no TEXT goes on; how many there are, if it ends too early.", () -> {
            fault("", 0);
            fault("x", 0);
            fault("S", 0);
            fault("1x", 1);
            fault("s+i*n-m%x", 8);
            fault("s+i*n-m%", 8);
            fault("((s)", 4);
            fault("((s)+", 5);
            fault("((s)+)", 5);
            // The first one counts, whatever stands behind it.
            fault("1)x!", 1);
            fault("1+)(((((((", 2);
            fault("12345678", 4);
            fault("1+".repeat(30), 60);
            fault("1+".repeat(29) + "1x", 59);
            fault("1+".repeat(29) + "x1", 58);
            fault("x" + "1+".repeat(29), 0);
            for (int b = 1; b < 256; b++) {
                boolean fits = "0123456789sinm!(".indexOf(b) >= 0;
                boolean goesOn = "0123456789+-*/%<=>&|".indexOf(b) >= 0;
                GorgeRocks x = new GorgeRocks();
                x.feed(b, 1);
                boolean whole = fits && b != '!' && b != '(';
                Due.is("byte " + b, x.text(0), whole ? 1 : fits ? -11 : -10);
                x.feed('7' | b << 8, 2);
                Due.is("7 and byte " + b, x.text(0), b >= '0' && b <= '9' ? 1 : goesOn ? -12 : -11);
            }
        });
    }

    private void turns() {
        doc.terms("USES: 0 TURNS: NAMES s the SOUND, i its place, n how many there are, m m; without a TEXT s.", () -> {
            GorgeRocks x = new GorgeRocks();
            int c = Due.call(x, 0, 1, 50, 44, 60, 99, 7, 8, 9, 10, 11, 53);
            x.rock(69, 0);
            x.rock(51, 0);
            Due.heard(2, x, c, 1, 1, 0, 51, 44, 60, 99, 6, 9, 8, 11, 10, 53);
            Due.text(x, 0, "s");
            Due.heard(2, x, c, 1, 1, 0, 51, 44, 60, 99, 6, 9, 8, 11, 10, 53);
            Due.text(x, 0, "i");
            Due.heard(2, x, c, 1, 0, 1, 2, 3, 4, 5, 6, 7, 8, 9, 10, 11);
            Due.text(x, 0, "n");
            Due.heard(2, x, c, 1, 12, 12, 12, 12, 12, 12, 12, 12, 12, 12, 12, 12);
            // SWALLOW leaves 6 ahead of TOLD.
            Due.heard(2, x, c, 21, 6, 6, 6, 6, 6, 6);
            Due.text(x, 0, "m");
            Due.heard(2, x, c, 1, 9, 9, 9, 9, 9, 9, 9, 9, 9, 9, 9, 9);
            x.set(0, 1, 0);
            Due.heard(2, x, c, 1, 0, 0, 0, 0, 0, 0, 0, 0, 0, 0, 0, 0);
            x.untell(0);
            Due.heard(2, x, c, 21, 53, 11, 9, 99, 44, 0);
            for (String name : new String[] {"o", "h", "b", "t", "S", "I", "N", "M", "k", "x"}) {
                fault(0, name, 0);
            }
        });
    }

    private void offers() {
        doc.terms("1 OFFERS (in a bargain): what one calls next: o the own offer, h what one heard of the other's, b 1 if one buys, else 0, "
                + "t the turn; held within -20 .. 19; without o + b*2 - 1.", () -> {
            int ab = SentencesOfBargains.ab(9, -7);
            offers("o", ab, 1, 9, -7);
            offers("h", ab, 1, -7, 9);
            offers("b", ab, 1, 0, 1);
            offers("b*5-2", ab, 1, -2, 3);
            offers("t-b", ab, 1, 0, -1);
            offers("t-b", ab, 7, 6, 5);
            offers("19-b", ab, 1, 19, 18);
            offers("20-b", ab, 1, 19, 19);
            offers("9999-b", ab, 1, 19, 19);
            offers("0-20", ab, 1, -20, -20);
            offers("0-21", ab, 1, -20, -20);
            offers("8192*8192*32", ab, 1, -20, -20);
            offers("8192*8192*32-1", ab, 1, 19, 19);
            offers("o+b*2-1", ab, 5, 4, -2);
            offers(null, ab, 5, 4, -2);
            offers(null, ab, 1, 8, -6);
            for (String name : new String[] {"s", "i", "n", "m", "O", "H", "B", "T", "a"}) {
                fault(1, name, 0);
            }
            heldWithoutText();
        });
    }

    /** The offers behind so many TURNS, of which none closes. */
    private static void offers(String text, int ab, int turns, int seller, int buyer) {
        GorgeRocks x = new GorgeRocks();
        if (text != null) {
            Due.is("text " + text, Due.text(x, 1, text), 1);
        }
        Due.is("the seller by " + text, x.bargain(ab, 0, 0, turns, 2), seller);
        Due.is("the buyer by " + text, x.bargain(ab, 0, 0, turns, 3), buyer);
    }

    /** Over LESS the seller hears -19 while the buyer offers 19, and goes on. */
    private static void heldWithoutText() {
        GorgeRocks x = new GorgeRocks();
        x.rock(30, 0);
        SentencesOfBargains.all(x, SentencesOfBargains.ab(5, 18), 0, 1, 2, Due.NONE, 0, 3, 19);
        SentencesOfBargains.all(x, SentencesOfBargains.ab(5, 19), 0, 1, 3, Due.NONE, 0, 2, 19);
        // Over TOLD the buyer hears 19 all the time, and the seller's -20 goes on.
        x.rock(60, 0);
        Due.text(x, 0, "99");
        SentencesOfBargains.all(x, SentencesOfBargains.ab(-19, -20), 2, 0, 3, Due.NONE, 1, -20, -17);
    }
}
