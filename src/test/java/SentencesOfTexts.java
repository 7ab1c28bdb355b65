/** Promises 12 to 14, sentence by sentence. */
final class SentencesOfTexts {
    private final Doc doc;
    private final Refusals refusals;

    SentencesOfTexts(Doc doc, Refusals refusals) {
        this.doc = doc;
        this.refusals = refusals;
    }

    void all() {
        tape();
        texts();
        untold();
    }

    private void tape() {
        doc.promise(12, "The n lowest bytes (1 .. 8) of a word, the lowest first, come to THE TAPE: how many there are.", () -> {
            GorgeRocks x = new GorgeRocks();
            int c = Due.call(x, 80);
            x.rock(60, 0);
            // What stands above the n lowest bytes does not matter.
            Due.is("1 byte", x.feed(0xffffffffffffff00L | '7', 1), 1);
            Due.is("text", x.text(0), 1);
            Due.is("7", x.heard(c, 1, 0), 7);
            long word = '7' | '+' << 8 | '9' << 16 | (long) '*' << 24 | (long) '5' << 32 | (long) '-' << 40
                    | (long) '1' << 48 | (long) '1' << 56;
            Due.is("8 bytes", x.feed(word, 8), 8);
            Due.is("text", x.text(0), 1);
            Due.is("7+9*5-11", x.heard(c, 1, 0), 41);
            for (int n = 1; n <= 8; n++) {
                Due.is("feed", x.feed(word, n), n * (n + 1) / 2);
            }
            Due.is("count(6)", x.count(6), 36);
            x.text(0);
            Due.is("5 bytes", x.feed(word, 5), 5);
            Due.is("and 3 behind them", x.feed(word >>> 40, 3), 8);
            Due.is("text", x.text(0), 1);
            Due.is("7+9*5-11", x.heard(c, 1, 0), 41);
            fillsToTheLast(x);
        });
        doc.promise(12, "BEYOND.", () -> refusals.of(12, Due.BEYOND));
        doc.promise(12, "FULL.", () -> refusals.of(12, Due.FULL));
    }

    private static void fillsToTheLast(GorgeRocks x) {
        for (int n = 1; n <= 8; n++) {
            Due.feed(x, "s".repeat(60 - n));
            Due.is(n + " bytes up to 60", x.feed(0L, n), 60);
            Due.is("FULL then", x.feed(0L, 1), Due.FULL);
            Due.is("a FAULT", x.text(0), -11);
        }
    }

    private void texts() {
        doc.promise(13, "THE TAPE, which is empty then, is the TEXT of a USE (0, 1), in place of one ahead: 1.", () -> {
            GorgeRocks x = new GorgeRocks();
            int c = Due.call(x, 80);
            x.rock(60, 0);
            for (String text : new String[] {"5", "7+4", "9"}) {
                Due.feed(x, text);
                Due.is("text(0)", x.text(0), 1);
                Due.is("THE TAPE", x.count(6), 0);
            }
            Due.is("TURNS", x.heard(c, 1, 0), 9);
            Due.is("OFFERS", x.untell(1), 0);
            for (String text : new String[] {"5", "o-7"}) {
                Due.feed(x, text);
                Due.is("text(1)", x.text(1), 1);
                Due.is("THE TAPE", x.count(6), 0);
            }
            Due.is("OFFERS", x.bargain(3010, 0, 0, 1, 2), 3);
            Due.is("TURNS stay", x.heard(c, 1, 0), 9);
            Due.is("empty is no TEXT", x.text(0), -10);
            String sixty = "s-" + "1-".repeat(28) + "11";
            Due.is("60 bytes", Due.text(x, 0, sixty), 1);
            Due.is("80 less 39", x.heard(c, 1, 0), 41);
            Due.is("a short one behind it", Due.text(x, 0, "s"), 1);
            Due.is("80", x.heard(c, 1, 0), 80);
        });
        doc.promise(13, "BEYOND (THE TAPE stays).", () -> {
            refusals.of(13, Due.BEYOND);
            GorgeRocks x = new GorgeRocks();
            Due.feed(x, "5+8");
            Due.is("text(2)", x.text(2), Due.BEYOND);
            Due.is("text(-1)", x.text(-1), Due.BEYOND);
            Due.is("THE TAPE", x.count(6), 3);
            Due.is("text(0)", x.text(0), 1);
            int c = Due.call(x, 80);
            x.rock(60, 0);
            Due.is("5+8", x.heard(c, 1, 0), 13);
        });
        doc.promise(13, "-10 less the FAULT (no ERROR; the one ahead stays; THE TAPE is empty, too).", this::faults);
    }

    private void faults() {
        GorgeRocks x = new GorgeRocks();
        int c = Due.call(x, 80);
        x.rock(60, 0);
        Due.is("a FAULT where none is ahead", Due.text(x, 0, "+"), -10);
        Due.is("there is none", x.untell(0), 0);
        Due.text(x, 0, "5");
        Due.text(x, 1, "o-6");
        String[] wrong = {"", "x", "7+", "7)", "7+9999*", "s+s+s+s+s+s+s+s+s+s+s+s+s+s+s+s+s+s+s+s+s+s+s+s+s+s+s+s+s+ss",
            "7+7+7+7+7+7+7+7+7+7+7+7+7+7+7+7+7+7+7+7+7+7+7+7+7+7+7+7+7+7+"};
        int[] place = {0, 0, 2, 1, 7, 59, 60};
        for (int use = 0; use < 2; use++) {
            for (int i = 0; i < wrong.length; i++) {
                String text = use == 0 ? wrong[i] : wrong[i].replace('s', 'o');
                Due.is("text(" + use + ") of " + text, Due.text(x, use, text), -10 - place[i]);
                Due.is("THE TAPE", x.count(6), 0);
                Due.is("TURNS", x.heard(c, 1, 0), 5);
                Due.is("OFFERS", x.bargain(3010, 0, 0, 1, 2), 4);
            }
        }
        for (int k = 1; k <= 6; k++) {
            Due.is("told(" + k + ")", x.told(k), 0);
        }
    }

    private void untold() {
        doc.promise(14, "There is no TEXT of a USE any more: 1 if there was, else 0.", () -> {
            GorgeRocks x = new GorgeRocks();
            int c = Due.call(x, 80);
            x.rock(60, 0);
            Due.is("none yet", x.untell(0), 0);
            Due.is("none yet", x.untell(1), 0);
            Due.text(x, 0, "0");
            Due.text(x, 1, "0");
            Due.is("0 is a TEXT", x.heard(c, 1, 0), 0);
            Due.is("untell(0)", x.untell(0), 1);
            Due.is("as it is", x.heard(c, 1, 0), 80);
            Due.is("untell(0) again", x.untell(0), 0);
            Due.is("OFFERS stay", x.bargain(3010, 0, 0, 1, 2), 0);
            Due.is("untell(1)", x.untell(1), 1);
            Due.is("one less", x.bargain(3010, 0, 0, 1, 2), 9);
            Due.is("untell(1) again", x.untell(1), 0);
            Due.feed(x, "s");
            Due.is("THE TAPE is no TEXT yet", x.untell(0), 0);
            Due.is("THE TAPE stays", x.count(6), 1);
        });
        doc.promise(14, "BEYOND.", () -> refusals.of(14, Due.BEYOND));
    }
}
