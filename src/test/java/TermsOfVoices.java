/** The terms' numbers 4 and 5 (VOICES, SHEETS), sentence by sentence. */
final class TermsOfVoices {
    private static final int LEAST = Integer.MIN_VALUE;
    private static final int MOST = Integer.MAX_VALUE;

    private final Doc doc;

    TermsOfVoices(Doc doc) {
        this.doc = doc;
    }

    void all() {
        voices();
        rock();
        nay();
        others();
        told();
        inherited();
        trace();
        sheets();
    }

    /** What ROCK k, of a KIND and m, says, and THE TRACE behind it. */
    private static void says(int kind, int m, int k, int voice, int number, int due, int... trace) {
        GorgeRocks x = new GorgeRocks();
        for (int i = 0; i <= k; i++) {
            x.rock(10 * kind + m, 0);
        }
        Due.is("voice " + voice + " of KIND " + kind + ", m " + m + ", k " + k + ", x " + number, x.voice(k, voice, number), due);
        if (trace.length > 0) {
            SentencesOfVoices.trace(x, trace);
        }
    }

    private void voices() {
        doc.terms("VOICES of a ROCK, with a number x (ints that wrap); k is its number, m as told: 0 turns, 1 sends, 2 keeps, 3 waits.", () -> {
            says(0, 5, 2, 0, 7, 9, 10);
            says(0, 5, 2, 1, 7, 18, 11, 10);
            says(0, 5, 2, 2, 7, 13, 12, 11, 10);
            says(0, 5, 2, 3, 7, 2, 13);
            says(0, 5, 2, 4, 7, Due.BEYOND);
            says(0, 5, 2, -1, 7, Due.BEYOND);
            says(0, 0, 7, 0, MOST, LEAST + 6);
            says(0, 0, 1, 1, MOST, 0);
            says(0, 9, 0, 2, LEAST, -9);
            says(0, 0, 1, 3, LEAST, LEAST);
            says(4, 0, 0, 0, MOST, MOST - 2);
            says(5, 0, 0, 1, MOST, 0);
            GorgeRocks x = new GorgeRocks();
            x.rock(5, 0);
            Due.is("m as told", x.voice(0, 2, 0), -5);
            x.set(0, 1, 8);
            Due.is("m as told now", x.voice(0, 2, 0), -8);
        });
    }

    private void rock() {
        doc.terms("BODIES: ROCK: 10 turns: x + k.", () -> {
            says(0, 9, 0, 0, -3, -3, 10);
            says(0, 9, 7, 0, -3, 4, 10);
        });
        doc.terms("11 sends: turns(x) * 2.", () -> {
            says(0, 9, 3, 1, 4, 14, 11, 10);
            says(0, 9, 3, 1, -4, -2, 11, 10);
        });
        doc.terms("12 keeps: sends(x) - m.", () -> {
            says(0, 9, 3, 2, 4, 5, 12, 11, 10);
            says(0, 0, 3, 2, 4, 14, 12, 11, 10);
        });
        doc.terms("13 waits: x by (m - k), cut (PARTED if that is 0; that is all that voice() answers then).", () -> {
            says(0, 5, 2, 3, 8, 2, 13);
            says(0, 5, 2, 3, -8, -2, 13);
            says(0, 2, 5, 3, 8, -2, 13);
            says(0, 2, 5, 3, -8, 2, 13);
            says(0, 9, 0, 3, 8, 0, 13);
            says(0, 9, 8 - 1, 3, 0, 0, 13);
            for (int k = 0; k < 8; k++) {
                says(0, k, k, 3, 8, Due.PARTED, 13);
                says(0, k + 1, k, 3, 8, 8, 13);
            }
            says(0, 0, 0, 3, 0, Due.PARTED, 13);
            // No more is worked out, and nothing of what was is answered.
            says(1, 2, 2, 3, 8, Due.PARTED, 21, 13);
            says(2, 2, 2, 3, 8, Due.PARTED, 21, 13);
            says(6, 2, 2, 3, 8, Due.PARTED, 71, 21, 13);
            says(5, 2, 2, 3, 8, Due.PARTED, 13);
            says(1, 2, 2, 0, 8, 5, 20, 10);
        });
    }

    private void nay() {
        doc.terms("NAY: 20 turns: super.turns(x) - 5.", () -> {
            says(1, 9, 3, 0, 4, 2, 20, 10);
            says(1, 9, 3, 0, LEAST, MOST - 1, 20, 10);
        });
        doc.terms("21 waits: super.waits(x) + sends(1).", () -> {
            // 12 by 6, and twice 1 + 3 - 5.
            says(1, 9, 3, 3, 12, 2 - 2, 21, 13, 11, 20, 10);
            says(1, 0, 7, 3, 15, -2 + 6, 21, 13, 11, 20, 10);
        });
        doc.terms("SECOND: 30 sends: 0 - super.sends(x).", () -> {
            says(2, 9, 3, 1, 4, -4, 30, 11, 20, 10);
            says(2, 9, 3, 2, 4, -13, 12, 30, 11, 20, 10);
            says(2, 9, 3, 3, 12, 2 + 2, 21, 13, 30, 11, 20, 10);
        });
    }

    private void others() {
        doc.terms("LESS: 40 keeps: super.keeps(x / 2).", () -> {
            says(3, 9, 3, 2, 8, 5, 40, 12, 11, 10);
            says(3, 9, 3, 2, 9, 5, 40, 12, 11, 10);
            says(3, 9, 3, 2, -9, -11, 40, 12, 11, 10);
            says(3, 9, 3, 1, 8, 22, 11, 10);
        });
        doc.terms("BACK: 50 turns: super.turns(x) * 3.", () -> {
            says(4, 9, 3, 0, 4, 21, 50, 10);
            says(4, 9, 3, 1, 4, 42, 11, 50, 10);
        });
        doc.terms("51 keeps: super.keeps(x) ^ k.", () -> {
            says(4, 9, 3, 2, 4, 33 ^ 3, 51, 12, 11, 50, 10);
            says(4, 9, 0, 2, 4, 15, 51, 12, 11, 50, 10);
            says(4, 9, 7, 2, -9, -21 ^ 7, 51, 12, 11, 50, 10);
        });
        doc.terms("SWALLOW: 60 sends: super.sends(x + 1).", () -> {
            says(5, 9, 3, 1, 4, 48, 60, 11, 50, 10);
            says(5, 9, 3, 2, 4, 39 ^ 3, 51, 12, 60, 11, 50, 10);
            says(5, 9, 3, 0, 4, 21, 50, 10);
        });
    }

    private void told() {
        doc.terms("TOLD: 70 turns: 9.", () -> {
            says(6, 9, 3, 0, 4, 9, 70);
            says(6, 9, 3, 0, LEAST, 9, 70);
            says(6, 9, 3, 1, 4, 18, 11, 70);
            says(6, 8, 3, 2, 4, 10, 12, 11, 70);
        });
        doc.terms("71 waits: super.waits(x) - keeps(0).", () -> {
            // 12 by 6, and 18; less 18 less 9.
            says(6, 9, 3, 3, 12, 2 + 18 - 9, 71, 21, 13, 11, 70, 12, 11, 70);
            says(6, 0, 3, 3, 12, -4 + 18 - 18, 71, 21, 13, 11, 70, 12, 11, 70);
        });
    }

    private void inherited() {
        doc.terms("turns(..) is the BODY of its KIND, or of the next KIND above that has one; "
                + "super.turns(..) that from the KIND above the BODY's on.", () -> {
            // The first BODY of each VOICE of each KIND.
            int[][] first = {{10, 11, 12, 13}, {20, 11, 12, 21}, {20, 30, 12, 21}, {10, 11, 40, 13}, {50, 11, 51, 13},
                {50, 60, 51, 13}, {70, 11, 12, 71}};
            for (int kind = 0; kind < 7; kind++) {
                GorgeRocks x = new GorgeRocks();
                x.rock(10 * kind + 5, 0);
                for (int voice = 0; voice < 4; voice++) {
                    x.voice(0, voice, 30);
                    Due.is("first BODY of voice " + voice + " of KIND " + kind, x.body(0), first[kind][voice]);
                }
            }
            // A KIND that has none of its own is passed by, from below and from the BODY.
            says(2, 9, 3, 0, 4, 2, 20, 10);
            says(5, 9, 3, 0, 4, 21, 50, 10);
            says(2, 9, 3, 1, 4, -4, 30, 11, 20, 10);
            says(5, 9, 3, 1, 4, 48, 60, 11, 50, 10);
            GorgeRocks x = new GorgeRocks();
            x.rock(15, 0);
            x.set(0, 0, 4);
            Due.is("of the KIND that it is now", x.voice(0, 0, 4), 12);
        });
    }

    private void trace() {
        doc.terms("THE TRACE: the numbers of BODIES of the latest voice(), as they began (what stands left is worked out first), the first 30.", () -> {
            GorgeRocks x = new GorgeRocks();
            Due.is("none at first", x.count(8), 0);
            Due.is("none at first", x.body(0), Due.NONE);
            x.rock(65, 0);
            x.rock(0, 0);
            x.voice(0, 3, 9);
            SentencesOfVoices.trace(x, 71, 21, 13, 11, 70, 12, 11, 70);
            x.voice(1, 1, 9);
            SentencesOfVoices.trace(x, 11, 10);
            x.voice(2, 0, 9);
            x.voice(0, 4, 9);
            SentencesOfVoices.trace(x, 11, 10);
            x.set(1, 1, 1);
            x.voice(1, 3, 9);
            SentencesOfVoices.trace(x, 13);
            for (int i : new int[] {-1, 1, 29, 30, LEAST, MOST}) {
                Due.is("body(" + i + ")", x.body(i), Due.NONE);
            }
        });
    }

    private void sheets() {
        doc.terms("SHEETS 0 .. 3 are rows of 8, 16, 32 bits, at most 24 numbers, or missing (as at first).", () -> {
            GorgeRocks x = new GorgeRocks();
            x.call();
            for (int sheet = 0; sheet < 4; sheet++) {
                Due.is("missing at first", x.put(sheet, 0, 0), Due.NONE);
                Due.is("missing at first", x.sounds(sheet, 0), Due.NONE);
                Due.is("missing at first", x.move(sheet, 0, sheet, 0, 0), Due.NONE);
                for (int bits : new int[] {8, 16, 32}) {
                    Due.is("25 numbers", x.sheet(sheet, bits, 25), Due.BEYOND);
                    Due.is("24 numbers", x.sheet(sheet, bits, 24), 1);
                    Due.is("the last", x.put(sheet, 23, 5), 1);
                    Due.is("behind the last", x.put(sheet, 24, 5), Due.BEYOND);
                }
                for (int bits : new int[] {-8, 1, 4, 7, 9, 24, 33, 64}) {
                    Due.is(bits + " bits", x.sheet(sheet, bits, 1), Due.BEYOND);
                }
                Due.is("missing again", x.sheet(sheet, 0, 0), 1);
                Due.is("missing again", x.put(sheet, 0, 0), Due.NONE);
            }
            Due.is("SHEET 4", x.sheet(4, 8, 1), Due.BEYOND);
            Due.is("SHEET -1", x.sheet(-1, 8, 1), Due.BEYOND);
        });
    }
}
