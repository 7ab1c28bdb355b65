/** Promises 36 to 39, sentence by sentence. */
final class SentencesOfSheets {
    private final Doc doc;
    private final Refusals refusals;

    SentencesOfSheets(Doc doc, Refusals refusals) {
        this.doc = doc;
        this.refusals = refusals;
    }

    void all() {
        sheets();
        puts();
        moves();
        sounds();
    }

    /** All numbers of a SHEET, 12 by 12, over CALL 0; they must be SOUNDS. */
    static void numbers(GorgeRocks x, int sheet, int... due) {
        if (x.count(0) == 0) {
            x.call();
        }
        int first = Math.min(12, due.length);
        Due.is("numbers of SHEET " + sheet, x.sounds(sheet, 0), first);
        for (int i = 0; i < first; i++) {
            Due.is("number " + i + " of SHEET " + sheet, x.soundOf(0, i), due[i]);
        }
        Due.is("so many there are", x.move(sheet, due.length, sheet, due.length, 0), 0);
        Due.is("and no more", x.move(sheet, due.length, sheet, due.length, 1), Due.BEYOND);
        Due.is("and no more", x.put(sheet, due.length, 0), Due.BEYOND);
    }

    private void sheets() {
        doc.promise(36, "A SHEET has n numbers, all 0, of so many bits (8, 16, 32; 0: it is missing, n doesn't matter): 1.", () -> {
            GorgeRocks x = new GorgeRocks();
            for (int bits : new int[] {8, 16, 32}) {
                for (int sheet = 0; sheet < 4; sheet++) {
                    Due.is("24 of " + bits, x.sheet(sheet, bits, 24), 1);
                    numbers(x, sheet, new int[24]);
                    for (int i = 0; i < 24; i++) {
                        Due.is("put", x.put(sheet, i, 5), 1);
                    }
                    Due.is("anew, the same", x.sheet(sheet, bits, 24), 1);
                    numbers(x, sheet, new int[24]);
                    Due.is("the last 12", x.move(sheet, 12, sheet, 0, 12), 12);
                    numbers(x, sheet, new int[24]);
                }
                x = new GorgeRocks();
            }
            missing(x);
            bitsOf(x);
        });
        doc.promise(36, "BEYOND.", () -> refusals.of(36, Due.BEYOND));
        doc.promise(36, "STATE: n is below 0 (ahead of BEYOND of n).", () -> refusals.of(36, Due.STATE));
    }

    private static void missing(GorgeRocks x) {
        for (int n : new int[] {0, 24, 25, -1, Integer.MIN_VALUE, Integer.MAX_VALUE}) {
            Due.is("one number", x.sheet(0, 8, 1), 1);
            Due.is("put", x.put(0, 0, 7), 1);
            Due.is("missing, n " + n, x.sheet(0, 0, n), 1);
            Due.is("put", x.put(0, 0, 7), Due.NONE);
            Due.is("missing again", x.sheet(0, 0, n), 1);
        }
        Due.is("of no numbers", x.sheet(0, 8, 0), 1);
        Due.is("is not missing", x.move(0, 0, 0, 0, 0), 0);
        Due.is("but has none", x.put(0, 0, 7), Due.BEYOND);
    }

    /** Unlike bits are KIND as numbers are moved. */
    private static void bitsOf(GorgeRocks x) {
        int[] bits = {8, 16, 32};
        for (int a : bits) {
            for (int b : bits) {
                x.sheet(0, a, 2);
                x.sheet(1, b, 2);
                Due.is(a + " bits to " + b, x.move(0, 0, 1, 0, 2), a == b ? 2 : Due.KIND);
            }
        }
    }

    private void puts() {
        doc.promise(37, "Number i of a SHEET becomes v (its lowest bits): 1.", () -> {
            GorgeRocks x = new GorgeRocks();
            x.sheet(0, 8, 3);
            x.sheet(1, 16, 3);
            x.sheet(2, 32, 24);
            for (int i = 0; i < 3; i++) {
                Due.is("8 bits", x.put(0, i, 40 + i + (i - 1) * 256), 1);
                Due.is("16 bits", x.put(1, i, 50 + i + (i - 1) * 65536), 1);
            }
            numbers(x, 0, 40, 41, 42);
            numbers(x, 1, 50, 51, 52);
            x.put(0, 1, Integer.MIN_VALUE + 99);
            x.put(1, 1, Integer.MAX_VALUE - 65535 + 99);
            numbers(x, 0, 40, 99, 42);
            numbers(x, 1, 50, 99, 52);
            x.put(1, 0, 256);
            Due.is("256 has 16 bits", x.sounds(1, 0), 0);
            x.put(2, 0, 65536);
            Due.is("65536 has 32 bits", x.sounds(2, 0), 0);
            Due.is("the first", x.put(2, 0, 1), 1);
            Due.is("the last", x.put(2, 23, 7), 1);
            x.move(2, 12, 2, 0, 12);
            Due.is("12 of them", x.sounds(2, 0), 12);
            Due.is("the last", x.soundOf(0, 11), 7);
            Due.is("128 in 8 bits", x.put(0, 0, 128), 1);
            Due.is("is no SOUND", x.sounds(0, 0), 0);
            Due.is("255 in 8 bits", x.put(0, 0, 255), 1);
            Due.is("is no SOUND", x.sounds(0, 0), 0);
        });
        doc.promise(37, "BEYOND: no such SHEET.", () -> {
            GorgeRocks x = new GorgeRocks();
            Due.is("SHEET -1", x.put(-1, 0, 0), Due.BEYOND);
            Due.is("SHEET 4", x.put(4, 0, 0), Due.BEYOND);
            Due.is("SHEET 0 is there, missing", x.put(0, 0, 0), Due.NONE);
            Due.is("SHEET 3 is there, missing", x.put(3, 0, 0), Due.NONE);
        });
        doc.promise(37, "NONE: it is missing.", () -> refusals.of(37, Due.NONE));
        doc.promise(37, "BEYOND: no such number.", () -> refusals.of(37, Due.BEYOND));
    }

    private void moves() {
        doc.promise(38, "n numbers of a SHEET, from number i on, come to another one (or the same), from its number j on, "
                + "as they all were: n.", () -> {
            GorgeRocks x = new GorgeRocks();
            x.sheet(0, 32, 24);
            x.sheet(1, 32, 12);
            for (int i = 0; i < 24; i++) {
                x.put(0, i, i);
            }
            Due.is("the last 12", x.move(0, 12, 1, 0, 12), 12);
            numbers(x, 1, 12, 13, 14, 15, 16, 17, 18, 19, 20, 21, 22, 23);
            Due.is("all in their places", x.move(0, 0, 0, 0, 24), 24);
            Due.is("none of them", x.move(0, 24, 1, 12, 0), 0);
            Due.is("none of them", x.move(0, 0, 1, 0, 0), 0);
            Due.is("one to the last", x.move(0, 0, 1, 11, 1), 1);
            numbers(x, 1, 12, 13, 14, 15, 16, 17, 18, 19, 20, 21, 22, 0);
            Due.is("forward in the same", x.move(1, 0, 1, 1, 11), 11);
            numbers(x, 1, 12, 12, 13, 14, 15, 16, 17, 18, 19, 20, 21, 22);
            Due.is("backward in the same", x.move(1, 2, 1, 0, 10), 10);
            numbers(x, 1, 13, 14, 15, 16, 17, 18, 19, 20, 21, 22, 21, 22);
            Due.is("of the last of all", x.move(0, 23, 1, 5, 1), 1);
            numbers(x, 1, 13, 14, 15, 16, 17, 23, 19, 20, 21, 22, 21, 22);
            x.put(0, 0, 65536 + 7);
            x.move(0, 0, 1, 0, 1);
            Due.is("all bits come", x.sounds(1, 0), 0);
        });
        doc.promise(38, "BEYOND: no such SHEET.", () -> {
            GorgeRocks x = new GorgeRocks();
            x.sheet(0, 8, 1);
            x.sheet(3, 8, 1);
            for (int sheet : new int[] {-1, 4}) {
                Due.is("from SHEET " + sheet, x.move(sheet, 0, 0, 0, 1), Due.BEYOND);
                Due.is("to SHEET " + sheet, x.move(0, 0, sheet, 0, 1), Due.BEYOND);
                Due.is("ahead of NONE", x.move(1, 0, sheet, 0, 1), Due.BEYOND);
                Due.is("ahead of NONE", x.move(sheet, 0, 1, 0, 1), Due.BEYOND);
            }
            Due.is("the first to the last SHEET", x.move(0, 0, 3, 0, 1), 1);
        });
        doc.promise(38, "NONE: one is missing.", () -> refusals.of(38, Due.NONE));
        doc.promise(38, "KIND: they are of unlike bits.", () -> refusals.of(38, Due.KIND));
        doc.promise(38, "BEYOND: n, i, or j is below 0, or they don't stand there.", () -> refusals.of(38, Due.BEYOND));
    }

    private void sounds() {
        doc.promise(39, "Numbers of a SHEET are SOUNDS of a CALL, in place of what it had: how many came, up to the first that is none, "
                + "or the 12th.", () -> {
            GorgeRocks x = new GorgeRocks();
            int c = Due.call(x, 0, 1, 2, 3, 4, 5, 6, 7, 8, 9, 10, 11);
            int d = Due.call(x, 9);
            x.sheet(3, 32, 24);
            for (int i = 0; i < 24; i++) {
                x.put(3, i, 30 + i);
            }
            Due.is("12 of 24", x.sounds(3, d), 12);
            Due.row(39, x, d, 30, 31, 32, 33, 34, 35, 36, 37, 38, 39, 40, 41);
            x.put(3, 12, -1);
            Due.is("the 13th doesn't matter", x.sounds(3, d), 12);
            for (int none : new int[] {-1, 54, 59, 100, Integer.MIN_VALUE, Integer.MAX_VALUE}) {
                x.put(3, 11, none);
                Due.is("up to " + none, x.sounds(3, d), 11);
                x.put(3, 11, 99);
                Due.is("99", x.sounds(3, d), 12);
            }
            x.put(3, 1, 57);
            Due.is("one", x.sounds(3, c), 1);
            Due.row(39, x, c, 30);
            x.put(3, 0, 58);
            Due.is("none", x.sounds(3, c), 0);
            Due.row(39, x, c);
            x.sheet(0, 8, 0);
            Due.is("of no numbers", x.sounds(0, d), 0);
            Due.row(39, x, d);
            x.sheet(0, 16, 1);
            Due.is("of one number", x.sounds(0, d), 1);
            Due.row(39, x, d, 0);
        });
        doc.promise(39, "BEYOND: SHEET, CALL.", () -> refusals.of(39, Due.BEYOND));
        doc.promise(39, "NONE.", () -> refusals.of(39, Due.NONE));
    }
}
