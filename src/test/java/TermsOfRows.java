/** The terms' number 3 as far as PART (what rows say, what comes back), sentence by sentence. */
final class TermsOfRows {
    private final Doc doc;

    TermsOfRows(Doc doc) {
        this.doc = doc;
    }

    void all() {
        grammar();
        reads();
        sets();
        sums();
        joined();
        says();
        heard();
        made();
        needs();
        meanings();
        places();
        safety();
        parts();
    }

    private static void read(int... row) {
        GorgeRocks x = new GorgeRocks();
        Due.is("reads " + java.util.Arrays.toString(row), x.reads(Due.call(x, row)), 1);
    }

    private static void fault(int place, int... row) {
        GorgeRocks x = new GorgeRocks();
        Due.is("reads " + java.util.Arrays.toString(row), x.reads(Due.call(x, row)), -10 - place);
    }

    /** Nothing is SO but PLAIN WORDS and odd ones. */
    private static void said(int due, int... row) {
        GorgeRocks x = new GorgeRocks();
        Due.is("says " + java.util.Arrays.toString(row), x.says(Due.call(x, row), 0), due);
    }

    private void grammar() {
        doc.terms("GRAMMAR of a row: T { AND T, OR T }, T: NOT T, or IF T T, or a WORD (0 .. 49) { NUMBER }.", () -> {
            read(0);
            read(49);
            read(0, 60);
            read(49, 60, 99, 80);
            read(0, 60, 61, 62, 63, 64, 65, 66, 67, 68, 69, 70);
            read(53, 0);
            read(53, 53, 53, 53, 53, 53, 53, 53, 53, 53, 53, 0);
            read(52, 0, 1);
            read(52, 52, 0, 1, 2);
            read(52, 0, 52, 1, 2);
            read(52, 52, 52, 52, 52, 0, 1, 2, 3, 4, 5);
            read(52, 53, 0, 60, 53, 1, 61);
            read(53, 52, 0, 1);
            read(0, 50, 1);
            read(0, 51, 1);
            read(0, 60, 51, 53, 1, 50, 52, 2, 80, 3, 99, 61);
            fault(0, 50);
            fault(0, 51, 0);
            fault(0, 60);
            fault(1, 0, 1);
            fault(1, 53, 50);
            fault(1, 53, 60);
            fault(1, 52, 51);
            fault(1, 52, 60);
            fault(2, 52, 0, 50, 1);
            fault(3, 52, 0, 80, 51);
            fault(3, 52, 0, 1, 2);
            fault(1, 0, 53);
            fault(1, 0, 52, 1, 2);
            fault(2, 0, 60, 1);
            fault(2, 0, 50, 51);
            fault(2, 0, 50, 60);
            fault(2, 0, 51, 60);
            fault(2, 0, 50, 99, 1);
        });
    }

    private void reads() {
        doc.terms("It READS if all of it is so; FAULT: the place of the first SOUND that can't stand, "
                + "or how many there are if it ends too early.", () -> {
            read(0, 50, 1, 50, 2, 50, 3, 50, 4, 50, 5, 60);
            fault(0);
            fault(1, 53);
            fault(1, 52);
            fault(2, 52, 0);
            fault(3, 52, 0, 80);
            fault(2, 0, 50);
            fault(3, 0, 51, 53);
            fault(12, 53, 53, 53, 53, 53, 53, 53, 53, 53, 53, 53, 53);
            fault(12, 52, 52, 52, 52, 52, 52, 0, 1, 2, 3, 4, 5);
            fault(12, 0, 50, 1, 50, 2, 50, 3, 50, 4, 50, 5, 50);
            fault(11, 0, 50, 1, 50, 2, 50, 3, 50, 4, 50, 5, 6);
            // The first one counts, whatever stands behind it.
            fault(1, 0, 1, 50, 50, 60);
            fault(0, 80, 0);
            fault(2, 0, 50, 50, 0);
        });
    }

    private void sets() {
        doc.terms("SO: a set of WORDS 0, 2, 4, .. 38 (bit 0 WORD 0, bit 1 WORD 2, ..): an even WORD is so if its bit is 1, "
                + "an odd one if that of the one less 1 is 0; PLAIN WORDS are so.", () -> {
            for (int bit = 0; bit < 20; bit++) {
                GorgeRocks x = new GorgeRocks();
                int c = x.call();
                x.so(1 << bit);
                for (int word = 0; word < 50; word++) {
                    boolean set = word / 2 == bit;
                    boolean so = word >= 40 || set == (word % 2 == 0);
                    Due.say(x, c, word);
                    Due.is("WORD " + word + " by bit " + bit, x.says(c, 0), so ? 1 : 0);
                }
            }
            GorgeRocks x = new GorgeRocks();
            int c = x.call();
            x.so(1048575);
            for (int word = 0; word < 50; word++) {
                Due.say(x, c, word);
                Due.is("WORD " + word + " by all bits", x.says(c, 0), word >= 40 || word % 2 == 0 ? 1 : 0);
            }
        });
    }

    private void sums() {
        doc.terms("A WORD with NUMBERS behind it is so if their sum is 0 or more, and it is so.", () -> {
            said(1, 1, 80);
            said(0, 1, 79);
            said(1, 1, 79, 81);
            said(0, 1, 60, 99);
            said(1, 1, 61, 99);
            said(0, 1, 99, 60);
            said(1, 1, 99, 99, 99, 60, 60, 81, 81);
            said(0, 1, 60, 60, 60, 99, 99, 99);
            said(0, 0, 80);
            said(0, 0, 99);
            said(0, 0, 60);
            said(1, 40, 80);
            said(0, 40, 79);
            // Each WORD has its own.
            said(1, 1, 79, 51, 1, 81);
            said(0, 1, 79, 50, 1, 81);
            said(1, 52, 1, 79, 0, 60);
        });
    }

    private void joined() {
        doc.terms("NOT, IF (the first isn't so, or the second is), then AND ahead of OR.", () -> {
            said(0, 53, 40);
            said(1, 53, 0);
            said(1, 53, 53, 40);
            said(1, 53, 40, 79);
            said(0, 52, 40, 0);
            said(1, 52, 0, 0);
            said(1, 52, 0, 40);
            said(1, 52, 40, 40);
            // NOT and IF take no more than their own T.
            said(0, 53, 0, 50, 0);
            said(1, 53, 40, 51, 40);
            said(0, 52, 0, 0, 50, 0);
            said(1, 52, 40, 0, 51, 40);
            said(1, 53, 52, 40, 0);
            said(0, 52, 53, 0, 0);
            said(1, 52, 52, 40, 0, 0);
            said(0, 52, 40, 52, 40, 0);
            said(1, 40, 51, 0, 50, 0);
            said(1, 0, 50, 0, 51, 40);
            said(0, 0, 51, 40, 50, 0);
            said(1, 40, 50, 40, 51, 0);
            said(0, 0, 51, 0, 51, 0);
            said(1, 0, 51, 0, 51, 40);
            said(0, 40, 50, 40, 50, 0);
            said(1, 0, 51, 40, 50, 40, 51, 0);
        });
    }

    private void says() {
        doc.terms("SAYS of a row: 1 so, 0 not; a row that doesn't READ: NONE.", () -> {
            said(1, 1);
            said(0, 0);
            said(Due.NONE);
            said(Due.NONE, 60);
            said(Due.NONE, 0, 1);
            said(Due.NONE, 1, 50);
            said(Due.NONE, 53, 53, 53, 53, 53, 53, 53, 53, 53, 53, 53, 53);
            said(0, 53, 53, 53, 53, 53, 53, 53, 53, 53, 53, 53, 40);
        });
    }

    private void heard() {
        doc.terms("HEARD of a CALL over a WAY: what comes back at last.", () -> {
            GorgeRocks x = SentencesOfBack.withEachKind(2);
            int c = Due.call(x, 0, 2, 90, 50);
            Due.heard(3, x, c, 0, 0, 2, 90, 50);
            Due.heard(3, x, c, 2, 1, 3, 90, 51);
            Due.heard(3, x, c, 25, 51, 90, 3, 1);
            Due.heard(3, x, c, 245, 51, 70, 3, 1);
            Due.heard(3, x, c, 2456, 1, 3, 51);
            Due.row(3, x, c, 0, 2, 90, 50);
        });
        doc.terms("SELF: whether that is the CALL.", () -> {
            GorgeRocks x = SentencesOfBack.withEachKind(2);
            int c = Due.call(x, 0, 2, 0);
            Due.is("over none", x.self(c, 0), 1);
            Due.is("over BACK", x.self(c, 5), 1);
            Due.is("over NAY", x.self(c, 2), 0);
            Due.is("over NAY twice", x.self(c, 22), 1);
            Due.is("over SWALLOW: a longer one", x.self(c, 6), 0);
            Due.say(x, c, 0, 0);
            Due.is("over SWALLOW of m 2: none lacks", x.self(c, 6), 1);
            Due.say(x, c);
            Due.is("none", x.self(c, 6543), 1);
        });
    }

    private void made() {
        doc.terms("WHICH: ROCKS that, one alone, make one CALL of another one, as bits.", () -> {
            GorgeRocks x = SentencesOfBack.withEachKind(1);
            int c = Due.call(x, 2, 4, 90);
            int d = Due.call(x, 90, 5, 3);
            Due.is("NAY and BACK together are none", x.which(d, c), 0);
            Due.say(x, d, 3, 5, 90);
            Due.is("NAY, TOLD", x.which(d, c), 2 | 64);
            Due.say(x, d, 90, 4, 2);
            Due.is("BACK", x.which(d, c), 16);
            Due.say(x, d, 90, 2);
            Due.is("SWALLOW", x.which(d, c), 32);
            Due.is("the other way round there is none", x.which(c, d), 0);
            x.rock(40, 0);
            Due.say(x, d, 90, 4, 2);
            Due.is("BACK, BACK", x.which(d, c), 16 | 128);
            Due.is("no ROCKS", none().which(0, 0), 0);
        });
        doc.terms("WAYS: in how many WAYS of 0 to k (0 .. 3) ROCKS one CALL becomes another one.", () -> {
            GorgeRocks x = new GorgeRocks();
            int c = Due.call(x, 2, 4, 6);
            int d = Due.call(x, 6, 2);
            x.rock(51, 0);
            x.rock(10, 0);
            // SWALLOW; and a NAY twice ahead, around, behind it.
            int[] due = {0, 1, 1, 4};
            for (int k = 0; k < 4; k++) {
                Due.is("by " + k, x.ways(c, d, k), due[k]);
                Due.is("never back, by " + k, x.ways(d, c, k), 0);
            }
            int[] self = {1, 1, 2, 2};
            for (int k = 0; k < 4; k++) {
                Due.is("itself by " + k, x.ways(c, c, k), self[k]);
            }
            Due.is("by 4", x.ways(c, c, 4), Due.BEYOND);
            Due.is("by -1", x.ways(c, c, -1), Due.BEYOND);
            Due.is("no ROCKS", none().ways(0, 0, 3), 1);
        });
    }

    /** An empty CALL, and no ROCKS. */
    private static GorgeRocks none() {
        GorgeRocks x = new GorgeRocks();
        x.call();
        return x;
    }

    private void needs() {
        doc.terms("NEED: the row that is to be called so that over a WAY a CALL is HEARD: each ROCK undone from the last on:", () -> {
            GorgeRocks x = SentencesOfBack.withEachKind(1);
            int c = Due.call(x, 0, 2, 4, 90);
            int d = x.call();
            // BACK, then SECOND: 0 3 4 90 ahead of it, 90 4 3 0 to be called.
            Due.needed(3, x, c, 53, 90, 4, 3, 0);
            Due.needed(3, x, c, 35, 90, 5, 2, 1);
            for (int way : new int[] {0, 1, 2, 3, 4, 5, 53, 35, 345, 5432, 3535, 2345, 1254}) {
                x.hush(d);
                for (int i = 0; i < x.need(c, way, -1); i++) {
                    x.sound(d, x.need(c, way, i));
                }
                Due.heard(3, x, d, way, 0, 2, 4, 90);
            }
        });
        doc.terms("ROCK, NAY, SECOND, LESS, BACK by themselves; SWALLOW, TOLD can't be undone.", () -> {
            GorgeRocks x = SentencesOfBack.withEachKind(9);
            int c = Due.call(x, 0, 2, 90);
            int none = Due.call(x);
            Due.needed(3, x, c, 1, 0, 2, 90);
            Due.needed(3, x, c, 2, 1, 3, 90);
            Due.needed(3, x, c, 3, 0, 3, 90);
            Due.needed(3, x, c, 4, 0, 2, 70);
            Due.needed(3, x, c, 5, 90, 2, 0);
            // Not even where none would lack, or TURNS have no TEXT, or there is nothing.
            for (int way : new int[] {6, 7, 16, 61, 17, 71, 1161, 7111, 1116, 67}) {
                Due.is("need over " + way, x.need(c, way, -1), Due.STATE);
                Due.is("need over " + way, x.need(none, way, -1), Due.STATE);
            }
            x.set(5, 0, 4);
            Due.is("what it is now", x.need(c, 6, 0), 90);
        });
    }

    private void meanings() {
        doc.terms("MEANT of a CALL by k (0 .. 2): how many unlike rows are NEEDS of it by WAYS of 0 to k ROCKS that can be undone.", () -> {
            meant(new int[] {2, 4, 90}, new int[] {}, 1, 1, 1);
            meant(new int[] {2, 4, 90}, new int[] {50, 60}, 1, 1, 1);
            meant(new int[] {2, 4, 90}, new int[] {0}, 1, 1, 1);
            meant(new int[] {2, 4, 90}, new int[] {10}, 1, 2, 2);
            meant(new int[] {2, 4, 90}, new int[] {10, 10, 19}, 1, 2, 2);
            meant(new int[] {2, 4, 90}, new int[] {10, 50, 30, 60}, 1, 3, 4);
            // NAY, SECOND, LESS, BACK: SECOND and BACK do not come to the same either way.
            meant(new int[] {2, 4, 90, 6}, new int[] {10, 20, 30, 40}, 1, 5, 12);
            meant(new int[] {2, 4, 90, 6}, new int[] {50, 10, 20, 60, 30, 40, 0, 40}, 1, 5, 12);
            meant(new int[] {}, new int[] {10, 20, 30, 40}, 1, 1, 1);
            meant(new int[] {44, 80}, new int[] {10, 20, 30}, 1, 1, 1);
            Due.is("by 3", none().meant(0, 3), Due.BEYOND);
            Due.is("by -1", none().meant(0, -1), Due.BEYOND);
        });
    }

    private static void meant(int[] row, int[] kms, int... due) {
        GorgeRocks x = new GorgeRocks();
        int c = Due.call(x, row);
        for (int km : kms) {
            x.rock(km, 0);
        }
        for (int k = 0; k < 3; k++) {
            Due.is("meant by " + k + " of " + kms.length + " ROCKS", x.meant(c, k), due[k]);
        }
        Due.row(3, x, c, row);
    }

    private void places() {
        doc.terms("PLACE by k: the place (0 .. 11) in which these rows (those that have it) have most unlike SOUNDS; "
                + "of several the least; how many.", () -> {
            place(new int[] {}, new int[] {10}, 2, 0, 0);
            place(new int[] {44}, new int[] {10}, 2, 0, 1);
            place(new int[] {44, 45}, new int[] {}, 0, 0, 1);
            place(new int[] {44, 2}, new int[] {10}, 0, 0, 1);
            place(new int[] {44, 2}, new int[] {10}, 1, 1, 2);
            place(new int[] {44, 2, 3}, new int[] {10}, 1, 1, 2);
            place(new int[] {44, 44, 44, 44, 44, 44, 44, 44, 44, 44, 44, 2}, new int[] {10}, 1, 11, 2);
            place(new int[] {44, 44, 90, 44, 44}, new int[] {30, 40}, 2, 2, 2);
            // 4 44 2, 5 44 3, and BACK of both: places 0 and 2 have 4 each.
            place(new int[] {4, 44, 2}, new int[] {10, 40}, 2, 0, 4);
            place(new int[] {4, 44, 2}, new int[] {10, 40}, 1, 0, 3);
            place(new int[] {4, 44, 2}, new int[] {50, 10, 20, 60, 30, 0, 40, 10}, 1, 0, 3);
            // 40 7 4, 40 6 5, 4 7 40: in place 2 there are 4, 5, 40.
            place(new int[] {40, 7, 4}, new int[] {10, 40}, 1, 2, 3);
            // AND and WORD 0, NUMBER 99 and WORD 49 are unlike.
            place(new int[] {50, 49, 99, 0}, new int[] {40}, 1, 0, 2);
            // So are SOUNDS that are 64 apart, as bits of a long would not tell.
            place(new int[] {0, 64}, new int[] {40}, 1, 0, 2);
            place(new int[] {35, 44, 99}, new int[] {40}, 1, 0, 2);
            // A SOUND that two of these rows have there counts once.
            for (int[] row : new int[][] {{2, 90}, {90, 2}, {50, 90}, {90, 51}, {49, 61}, {99, 0}}) {
                int turned = row[0] == 49 ? 1 : 0;
                place(row, new int[] {10, 30}, 1, turned, 2);
                place(row, new int[] {10, 30}, 2, turned, 2);
            }
        });
    }

    private static void place(int[] row, int[] kms, int k, int which, int many) {
        GorgeRocks x = new GorgeRocks();
        int c = Due.call(x, row);
        for (int km : kms) {
            x.rock(km, 0);
        }
        Due.is("which of " + java.util.Arrays.toString(row) + " by " + k, x.place(c, k, 0), which);
        Due.is("how many of " + java.util.Arrays.toString(row) + " by " + k, x.place(c, k, 1), many);
    }

    private void safety() {
        doc.terms("SAFE of a CALL: ROCKS by which it comes back as itself, as bits.", () -> {
            GorgeRocks x = SentencesOfBack.withEachKind(1);
            int c = x.call();
            Due.is("an empty one", x.safe(c, 0), 127);
            Due.say(x, c, 2);
            Due.is("one WORD", x.safe(c, 0), 1 | 4 | 8 | 16 | 32);
            Due.say(x, c, 90);
            Due.is("one NUMBER", x.safe(c, 0), 1 | 2 | 4 | 16 | 32 | 64);
            Due.say(x, c, 40, 44);
            Due.is("PLAIN WORDS", x.safe(c, 0), 1 | 2 | 4 | 8 | 64);
            x.set(5, 1, 9);
            Due.say(x, c, 40, 2, 40);
            Due.is("SWALLOW without a loss", x.safe(c, 0), 1 | 8 | 16 | 32);
            x.rock(0, 0);
            Due.is("ROCK 7", x.safe(c, 0), 1 | 8 | 16 | 32 | 128);
            Due.text(x, 0, "40");
            Due.say(x, c, 40, 40);
            Due.is("by TURNS", x.safe(c, 0), 255);
            Due.is("no ROCKS", none().safe(0, 0), 0);
        });
        doc.terms("UNSAFE: how many of its SOUNDS aren't their own CONTRARIES.", () -> {
            GorgeRocks x = new GorgeRocks();
            int c = x.call();
            Due.is("none", x.safe(c, 1), 0);
            Due.say(x, c, 40, 49, 52, 53, 60, 80);
            Due.is("their own", x.safe(c, 1), 0);
            int[] unsafe = {0, 1, 38, 39, 50, 51, 61, 79, 81, 99};
            for (int i = 0; i < unsafe.length; i++) {
                Due.say(x, c, 40, unsafe[i], 80);
                Due.is("one, " + unsafe[i], x.safe(c, 1), 1);
            }
            Due.say(x, c, 0, 0, 40, 99, 60, 61);
            Due.is("each time", x.safe(c, 1), 4);
        });
    }

    private void parts() {
        doc.terms("PART of two WAYS: the first place in which a CALL is HEARD otherwise by them (one that lacks it: so).", () -> {
            GorgeRocks x = SentencesOfBack.withEachKind(1);
            int c = Due.call(x, 44, 90, 2, 3);
            Due.is("NAY", x.part(c, 0, 2), 2);
            Due.is("SECOND", x.part(c, 3, 0), 3);
            Due.is("NAY and SECOND", x.part(c, 2, 3), 2);
            Due.is("LESS", x.part(c, 4, 0), 1);
            Due.is("BACK", x.part(c, 5, 0), 0);
            Due.is("none of them", x.part(c, 22, 33), Due.NONE);
            Due.say(x, c, 44, 45, 44);
            Due.is("44 45 44 and 44 44", x.part(c, 6, 0), 1);
            x.set(5, 1, 2);
            Due.is("one lacks the last place", x.part(c, 6, 0), 2);
            Due.is("the other one lacks it", x.part(c, 0, 6), 2);
            x.set(5, 1, 0);
            Due.is("all lack", x.part(c, 0, 6), 0);
            Due.is("by both", x.part(c, 6, 66), Due.NONE);
        });
    }
}
