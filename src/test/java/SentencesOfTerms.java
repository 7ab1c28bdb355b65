/** The terms' ERRORS and number 1 (SOUNDS, CALLS, ROCKS, WAYS), sentence by sentence. */
final class SentencesOfTerms {
    private final Doc doc;
    private final Refusals refusals;

    SentencesOfTerms(Doc doc, Refusals refusals) {
        this.doc = doc;
        this.refusals = refusals;
    }

    void all() {
        errors();
        orders();
        quotients();
        words();
        otherSounds();
        rows();
        rocks();
        sendsEach();
        sendsTurned();
        sendsTold();
        ways();
    }

    private void errors() {
        doc.terms("ERRORS are answers below -1000000: LOW is -1000000; LOW - 1 BEYOND, LOW - 2 NONE, LOW - 3 STATE, LOW - 4 FULL, "
                + "LOW - 5 KIND, LOW - 6 PARTED.", () -> {
            GorgeRocks x = new GorgeRocks();
            x.rock(0, 0);
            for (int i = 0; i < 24; i++) {
                x.tell(i);
            }
            Due.is("LOW itself is none", x.voice(0, 0, -1000000), -1000000);
            Due.is("BEYOND", x.hush(0), -1000001);
            Due.is("NONE", x.restore(), -1000002);
            Due.is("STATE", x.sheet(0, 8, -1), -1000003);
            Due.is("FULL", x.tell(0), -1000004);
            Due.is("KIND", x.as(0, 1), -1000005);
            Due.is("PARTED", x.voice(0, 3, 1), -1000006);
            for (int k = 1; k <= 6; k++) {
                Due.is("told(" + k + ")", x.told(k), 1);
            }
        });
        doc.terms("one that answers an ERROR changes nothing but what told() tells, or where told.", refusals::all);
    }

    /** Each act that has more than one ERROR, where more than one is due. */
    private void orders() {
        doc.terms("Each act tells its ERRORS in the order in which they are asked;", () -> {
            GorgeRocks full = Scenes.full();
            Due.is("sound: BEYOND, FULL", full.sound(0, 54), Due.BEYOND);
            Due.is("rock: BEYOND, FULL", full.rock(70, 0), Due.BEYOND);
            Due.is("feed: BEYOND, FULL", full.feed(0L, 9), Due.BEYOND);
            Due.is("shout: BEYOND, FULL", full.shout(12, 0), Due.BEYOND);
            GorgeRocks x = Scenes.rich();
            Due.is("as: BEYOND, KIND", x.as(4, 7), Due.BEYOND);
            Due.is("need: BEYOND of i below -1, STATE", x.need(0, 3, -2), Due.BEYOND);
            Due.is("need: STATE, BEYOND of i", x.need(0, 3, 12), Due.STATE);
            Due.is("part: BEYOND, NONE", x.part(3, 0, 9), Due.BEYOND);
            Due.is("says: BEYOND, NONE", x.says(3, 9), Due.BEYOND);
            Due.is("log: NONE, BEYOND", x.log(8, -2), Due.NONE);
            Due.is("bargain: BEYOND, NONE", x.bargain(3010, 0, 0, 0, 0), Due.BEYOND);
            Due.is("voice: BEYOND, PARTED", x.voice(4, 4, 1), Due.BEYOND);
            Due.is("seconds: BEYOND, STATE", Scenes.late().seconds(61), Due.BEYOND);
            ordersOfSheets(x);
        });
    }

    /** In rich() SHEETS 0 and 1 have 8 bits, 2 has 16, 3 is missing. */
    private static void ordersOfSheets(GorgeRocks x) {
        Due.is("sheet: BEYOND, STATE", x.sheet(4, 8, -1), Due.BEYOND);
        Due.is("sheet: BEYOND, STATE", x.sheet(0, 9, -1), Due.BEYOND);
        Due.is("put: BEYOND of the SHEET, NONE", x.put(4, 99, 0), Due.BEYOND);
        Due.is("put: NONE, BEYOND of the number", x.put(3, 99, 0), Due.NONE);
        Due.is("move: BEYOND of a SHEET, NONE", x.move(3, 0, 4, 0, 0), Due.BEYOND);
        Due.is("move: BEYOND of a SHEET, KIND", x.move(4, 0, 2, 0, 0), Due.BEYOND);
        Due.is("move: NONE, KIND", x.move(2, 0, 3, 0, 0), Due.NONE);
        Due.is("move: NONE, BEYOND of n", x.move(0, 0, 3, 0, -1), Due.NONE);
        Due.is("move: KIND, BEYOND of n", x.move(0, 0, 2, 0, -1), Due.KIND);
        Due.is("sounds: BEYOND, NONE", x.sounds(3, 4), Due.BEYOND);
    }

    private void quotients() {
        doc.terms("Quotients are cut toward 0.", () -> {
            GorgeRocks x = new GorgeRocks();
            x.rock(30, 0);
            x.rock(3, 0);
            // LESS keeps: x / 2 is doubled then; waits: x by 2.
            int[] of = {7, -7, 1, -1, -8, 0};
            int[] half = {3, -3, 0, 0, -4, 0};
            for (int i = 0; i < of.length; i++) {
                Due.is(of[i] + " / 2 of LESS", x.voice(0, 2, of[i]), 2 * half[i]);
                Due.is(of[i] + " by 2 as one waits", x.voice(1, 3, of[i]), half[i]);
            }
            Due.is("by -2, too", waits(0, 2, 7), -3);
            Due.is("by -2, too", waits(0, 2, -7), 3);
            TermsOfTexts.gives("10-7/2", 7);
            TermsOfTexts.gives("10+(0-7)/2", 7);
            TermsOfTexts.gives("10+7/(0-2)", 7);
        });
    }

    /** What ROCK k of m waits. */
    private static int waits(int m, int k, int number) {
        GorgeRocks x = new GorgeRocks();
        for (int i = 0; i <= k; i++) {
            x.rock(m, 0);
        }
        return x.voice(k, 3, number);
    }

    private void words() {
        doc.terms("SOUNDS are told as 0 .. 99: 0 .. 39 WORDS; the CONTRARY of an even one is that and 1, of an odd one that less 1.", () -> {
            GorgeRocks x = new GorgeRocks();
            int c = x.call();
            for (int s = 0; s < 40; s++) {
                Due.is("contrary(" + s + ")", x.contrary(s), s % 2 == 0 ? s + 1 : s - 1);
                Due.say(x, c, s);
                Due.is("a WORD reads: " + s, x.reads(c), 1);
            }
            Due.is("-1 is none", x.sound(c, -1), Due.BEYOND);
            Due.is("99 is one", x.sound(c, 99), 2);
            Due.is("100 is none", x.sound(c, 100), Due.BEYOND);
            Due.is("-1 has no CONTRARY", x.contrary(-1), Due.BEYOND);
            Due.is("100 has no CONTRARY", x.contrary(100), Due.BEYOND);
        });
        doc.terms("40 .. 49 PLAIN WORDS (their own CONTRARIES).", () -> {
            GorgeRocks x = new GorgeRocks();
            int c = x.call();
            for (int s = 40; s < 50; s++) {
                Due.is("contrary(" + s + ")", x.contrary(s), s);
                Due.say(x, c, s);
                Due.is("a PLAIN WORD reads: " + s, x.reads(c), 1);
            }
            Due.is("39 is not PLAIN", x.contrary(39), 38);
            Due.is("50 is not PLAIN", x.contrary(50), 51);
        });
    }

    private void otherSounds() {
        doc.terms("50 AND, 51 OR (each other's CONTRARIES), 52 IF, 53 NOT (their own).", () -> {
            GorgeRocks x = new GorgeRocks();
            Due.is("contrary(50)", x.contrary(50), 51);
            Due.is("contrary(51)", x.contrary(51), 50);
            Due.is("contrary(52)", x.contrary(52), 52);
            Due.is("contrary(53)", x.contrary(53), 53);
            int c = Due.call(x, 40, 50, 0);
            Due.is("AND", x.says(c, 0), 0);
            Due.say(x, c, 40, 51, 0);
            Due.is("OR", x.says(c, 0), 1);
            Due.say(x, c, 52, 0, 0);
            Due.is("IF", x.says(c, 0), 1);
            Due.say(x, c, 53, 0);
            Due.is("NOT", x.says(c, 0), 1);
        });
        doc.terms("60 .. 99 NUMBERS, told and 80 (60 is -20, 80 is 0, 99 is 19): CONTRARY: the NUMBER less (160 less the SOUND), "
                + "but 60 is its own.", () -> {
            GorgeRocks x = new GorgeRocks();
            Due.is("60 is its own", x.contrary(60), 60);
            for (int s = 61; s < 100; s++) {
                Due.is("contrary(" + s + ")", x.contrary(s), 160 - s);
            }
            int c = Due.call(x, 40, 99, 61);
            Due.is("19 and -19 are 0", x.says(c, 0), 1);
            Due.say(x, c, 40, 99, 60);
            Due.is("19 and -20 are -1", x.says(c, 0), 0);
            Due.say(x, c, 40, 80);
            Due.is("80 is 0", x.says(c, 0), 1);
        });
        doc.terms("54 .. 59 are no SOUNDS.", () -> {
            GorgeRocks x = new GorgeRocks();
            int c = x.call();
            for (int s = 54; s < 60; s++) {
                Due.is("sound " + s, x.sound(c, s), Due.BEYOND);
                Due.is("contrary(" + s + ")", x.contrary(s), Due.BEYOND);
            }
            Due.is("53 is one", x.sound(c, 53), 1);
            Due.is("60 is one", x.sound(c, 60), 2);
        });
    }

    private void rows() {
        doc.terms("CALLS 0, 1, .. (at most 12) are rows of at most 12 SOUNDS (none, too).", () -> {
            GorgeRocks x = new GorgeRocks();
            for (int i = 0; i < 12; i++) {
                Due.is("CALL " + i, x.call(), i);
                Due.is("none, too", x.soundOf(i, -1), 0);
            }
            Due.is("a 13th CALL", x.call(), Due.FULL);
            for (int i = 0; i < 12; i++) {
                Due.is("sound " + i, x.sound(11, 50 + i % 4), i + 1);
            }
            Due.is("a 13th SOUND", x.sound(11, 0), Due.FULL);
            Due.is("12 stay", x.soundOf(11, -1), 12);
        });
    }

    private void rocks() {
        doc.terms("ROCKS 0, 1, .. (at most 8) are of KINDS: 0 ROCK, 1 NAY under ROCK, 2 SECOND under NAY, 3 LESS under ROCK, "
                + "4 BACK under ROCK, 5 SWALLOW under BACK, 6 TOLD under NAY;", () -> {
            GorgeRocks x = new GorgeRocks();
            for (int i = 0; i < 8; i++) {
                Due.is("ROCK " + i, x.rock(10 * Math.min(i, 6), 3), i);
            }
            Due.is("a 9th ROCK", x.rock(0, 0), Due.FULL);
            String[] fits = {"0", "01", "012", "03", "04", "045", "016"};
            for (int kind = 0; kind < 7; kind++) {
                for (int as = 0; as < 7; as++) {
                    Due.is(kind + " as " + as, x.as(kind, as), fits[kind].indexOf('0' + as) >= 0 ? 3 : Due.KIND);
                }
            }
            Due.is("KIND 7", x.set(0, 0, 7), Due.BEYOND);
            Due.is("KIND 7", new GorgeRocks().rock(70, 0), Due.BEYOND);
        });
        doc.terms("each with a number m (0 .. 9) and a DELAY (0 .. 20 seconds).", () -> {
            GorgeRocks x = new GorgeRocks();
            Due.is("the least", x.rock(0, 0), 0);
            Due.is("the greatest", x.rock(69, 20), 1);
            Due.is("m 0", x.rockIs(0, 1), 0);
            Due.is("m 9", x.rockIs(1, 1), 9);
            Due.is("DELAY 0", x.rockIs(0, 2), 0);
            Due.is("DELAY 20", x.rockIs(1, 2), 20);
            Due.is("DELAY 21", x.rock(0, 21), Due.BEYOND);
            Due.is("DELAY -1", x.rock(0, -1), Due.BEYOND);
            Due.is("m 10", x.set(0, 1, 10), Due.BEYOND);
            Due.is("m -1", x.set(0, 1, -1), Due.BEYOND);
            Due.is("DELAY 21", x.set(0, 2, 21), Due.BEYOND);
            Due.is("DELAY -1", x.set(0, 2, -1), Due.BEYOND);
        });
    }

    private static final int[] EACH_SORT = {0, 39, 40, 50, 52, 53, 60, 61, 80, 99, 51, 1};

    private static void sends(int km, int[] called, int... back) {
        GorgeRocks x = new GorgeRocks();
        int c = Due.call(x, called);
        x.rock(km, 0);
        Due.heard(1, x, c, 1, back);
    }

    private void sendsEach() {
        doc.terms("A ROCK sends back a row: ROCK: as it is.", () -> {
            sends(9, EACH_SORT, EACH_SORT);
            sends(0, new int[] {});
        });
        doc.terms("NAY: each SOUND is its CONTRARY, but NUMBERS (as they are).", () -> {
            sends(19, EACH_SORT, 1, 38, 40, 51, 52, 53, 60, 61, 80, 99, 50, 0);
            sends(10, new int[] {});
            sends(10, new int[] {49, 2}, 49, 3);
        });
        doc.terms("SECOND: as NAY, but SOUNDS in places 0, 2, 4, .. as they are.", () -> {
            sends(29, EACH_SORT, 0, 38, 40, 51, 52, 53, 60, 61, 80, 99, 51, 0);
            sends(20, new int[] {0, 1, 2, 3, 4, 5, 6, 7, 8, 9, 10, 11}, 0, 0, 2, 2, 4, 4, 6, 6, 8, 8, 10, 10);
            sends(20, new int[] {});
            sends(20, new int[] {2}, 2);
            sends(20, new int[] {50, 50}, 50, 51);
        });
        doc.terms("LESS: NUMBERS are their CONTRARIES, all else as it is.", () -> {
            sends(39, EACH_SORT, 0, 39, 40, 50, 52, 53, 60, 99, 80, 61, 51, 1);
            sends(30, new int[] {});
            sends(30, new int[] {79, 81, 62}, 81, 79, 98);
        });
    }

    private void sendsTurned() {
        doc.terms("BACK: the row from its end to its begin.", () -> {
            sends(49, EACH_SORT, 1, 51, 99, 80, 61, 60, 53, 52, 50, 40, 39, 0);
            sends(40, new int[] {});
            sends(40, new int[] {7}, 7);
            sends(40, new int[] {7, 8, 60}, 60, 8, 7);
        });
        doc.terms("SWALLOW: as BACK, then each (m and 1)-th SOUND is left out (with m 0 all of them, with m 1 those in places 1, 3, ..).", () -> {
            int[] row = {0, 1, 2, 3, 4, 5, 6, 7, 8, 9, 10, 11};
            sends(50, row);
            sends(50, new int[] {7});
            sends(51, row, 11, 9, 7, 5, 3, 1);
            sends(51, new int[] {7, 8, 9}, 9, 7);
            sends(52, row, 11, 10, 8, 7, 5, 4, 2, 1);
            sends(55, row, 11, 10, 9, 8, 7, 5, 4, 3, 2, 1);
            sends(56, row, 11, 10, 9, 8, 7, 6, 4, 3, 2, 1, 0);
            sends(59, row, 11, 10, 9, 8, 7, 6, 5, 4, 3, 1, 0);
            sends(59, new int[] {0, 1, 2, 3, 4, 5, 6, 7, 8}, 8, 7, 6, 5, 4, 3, 2, 1, 0);
            sends(59, new int[] {0, 1, 2, 3, 4, 5, 6, 7, 8, 9}, 9, 8, 7, 6, 5, 4, 3, 2, 1);
            sends(59, new int[] {});
        });
    }

    private void sendsTold() {
        doc.terms("TOLD: as NAY, then what TURNS gives for each SOUND (none but a SOUND comes: else 60).", () -> {
            sends(69, EACH_SORT, 1, 38, 40, 51, 52, 53, 60, 61, 80, 99, 50, 0);
            int[] given = {0, 53, 54, 59, 60, 99, 100, 9999};
            int[] comes = {0, 53, 60, 60, 60, 99, 60, 60};
            for (int i = 0; i < given.length; i++) {
                TermsOfTexts.gives("" + given[i], comes[i]);
            }
            TermsOfTexts.gives("0-1", 60);
            TermsOfTexts.gives("8192*8192*32", 60);
            GorgeRocks x = new GorgeRocks();
            int c = Due.call(x, 0, 50, 44, 70);
            int none = Due.call(x);
            x.rock(60, 0);
            Due.text(x, 0, "s+2");
            // The CONTRARIES, 1 51 44 70, and 2.
            Due.heard(1, x, c, 1, 3, 53, 46, 72);
            Due.heard(1, x, none, 1);
            Due.say(x, c, 53, 49, 99, 38);
            Due.heard(1, x, c, 1, 60, 51, 60, 41);
        });
    }

    private void ways() {
        doc.terms("A WAY is a row of at most 4 ROCKS (a number whose digits are 1 and more than they: 0 none, 132 ROCKS 0, 2, 1; "
                + "the first the highest): each sends back what the one ahead did.", () -> {
            GorgeRocks x = new GorgeRocks();
            int c = Due.call(x, 0, 2, 4, 6, 8);
            x.rock(40, 1);
            x.rock(20, 2);
            x.rock(51, 4);
            Due.heard(1, x, c, 0, 0, 2, 4, 6, 8);
            // BACK 8 6 4 2 0, SWALLOW 0 4 8, SECOND.
            Due.heard(1, x, c, 132, 0, 5, 8);
            // SECOND 0 3 4 7 8, SWALLOW 8 4 0, BACK.
            Due.heard(1, x, c, 231, 0, 4, 8);
            // SWALLOW 8 4 0, SECOND 8 5 0, BACK.
            Due.heard(1, x, c, 321, 0, 5, 8);
            Due.heard(1, x, c, 1111, 0, 2, 4, 6, 8);
            Due.heard(1, x, c, 2221, 8, 7, 4, 3, 0);
            Due.is("4 ROCKS", x.takes(3332), 14);
            Due.is("5 ROCKS", x.takes(11111), Due.BEYOND);
            Due.is("no ROCK 3", x.takes(4), Due.BEYOND);
            Due.is("a digit 0", x.takes(101), Due.BEYOND);
            Due.is("a digit 0 at the end", x.takes(10), Due.BEYOND);
            Due.is("below 0", x.takes(-1), Due.BEYOND);
            for (int i = 3; i < 8; i++) {
                x.rock(0, 9);
            }
            Due.is("ROCK 7", x.takes(8888), 36);
            Due.is("no ROCK 8", x.takes(9), Due.BEYOND);
        });
        doc.terms("DELAYS together are how long it takes.", () -> {
            GorgeRocks x = new GorgeRocks();
            x.rock(0, 20);
            x.rock(0, 0);
            x.rock(0, 7);
            Due.is("none", x.takes(0), 0);
            Due.is("of DELAY 0", x.takes(2222), 0);
            Due.is("the longest", x.takes(1111), 80);
            Due.is("three", x.takes(123), 27);
        });
    }
}
