/** Promises 15 to 25, sentence by sentence. */
final class SentencesOfBack {
    private final Doc doc;
    private final Refusals refusals;

    SentencesOfBack(Doc doc, Refusals refusals) {
        this.doc = doc;
        this.refusals = refusals;
    }

    void all() {
        heard();
        echoes();
        made();
        needs();
        meanings();
        safety();
    }

    /** ROCKS 0 .. 6 of KINDS 0 .. 6, with one m. */
    static GorgeRocks withEachKind(int m) {
        GorgeRocks x = new GorgeRocks();
        for (int kind = 0; kind < 7; kind++) {
            x.rock(10 * kind + m, kind);
        }
        return x;
    }

    private void heard() {
        doc.promise(15, "The i-th SOUND of a CALL as HEARD over a WAY (i -1: how many).", () -> {
            GorgeRocks x = withEachKind(1);
            int c = Due.call(x, 0, 1, 2, 3, 4, 5, 6, 7, 8, 9, 10, 99);
            int none = Due.call(x);
            Due.heard(15, x, c, 0, 0, 1, 2, 3, 4, 5, 6, 7, 8, 9, 10, 99);
            Due.heard(15, x, c, 2, 1, 0, 3, 2, 5, 4, 7, 6, 9, 8, 11, 99);
            Due.heard(15, x, c, 5, 99, 10, 9, 8, 7, 6, 5, 4, 3, 2, 1, 0);
            Due.heard(15, x, c, 6, 99, 9, 7, 5, 3, 1);
            Due.heard(15, x, c, 6666, 1);
            Due.heard(15, x, none, 0);
            Due.heard(15, x, none, 1234);
            Due.heard(15, x, none, 7);
            Due.row(15, x, c, 0, 1, 2, 3, 4, 5, 6, 7, 8, 9, 10, 99);
        });
        doc.promise(15, "BEYOND: CALL, WAY, i (below -1, or there is none such).", () -> refusals.of(15, Due.BEYOND));
        doc.promise(16, "SELF over a WAY: 1, 0.", () -> {
            GorgeRocks x = withEachKind(3);
            int c = Due.call(x, 40, 2, 40);
            int none = Due.call(x);
            int[] due = {1, 1, 0, 0, 1, 1, 1, 0};
            for (int way = 0; way <= 7; way++) {
                Due.is("self over " + way, x.self(c, way), due[way]);
                Due.is("an empty one over " + way, x.self(none, way), 1);
            }
            Due.is("four ROCKS", x.self(c, 2332), 1);
            Due.is("four ROCKS", x.self(c, 2331), 0);
            x.set(5, 1, 2);
            Due.is("one that lacks the last", x.self(c, 6), 0);
        });
        doc.promise(16, "BEYOND.", () -> refusals.of(16, Due.BEYOND));
        doc.promise(17, "How long a WAY takes.", () -> {
            GorgeRocks x = new GorgeRocks();
            Due.is("no ROCKS", x.takes(0), 0);
            for (int i = 0; i < 8; i++) {
                x.rock(0, i == 7 ? 20 : i);
            }
            Due.is("DELAY 0", x.takes(1), 0);
            Due.is("one", x.takes(8), 20);
            Due.is("one twice", x.takes(33), 4);
            Due.is("the longest", x.takes(8888), 80);
            Due.is("four", x.takes(2345), 1 + 2 + 3 + 4);
            x.set(1, 2, 9);
            Due.is("as they are", x.takes(2345), 9 + 2 + 3 + 4);
        });
        doc.promise(17, "BEYOND.", () -> refusals.of(17, Due.BEYOND));
    }

    private void echoes() {
        doc.promise(18, "A CALL becomes what is HEARD of another one (or itself) over a WAY: how many SOUNDS.", () -> {
            GorgeRocks x = withEachKind(1);
            int c = Due.call(x, 1, 2, 3);
            int d = Due.call(x, 0, 1, 2, 3, 4, 5, 6, 7, 8, 9, 10, 11);
            Due.is("into a longer one", x.echo(c, 5, d), 3);
            Due.row(18, x, d, 3, 2, 1);
            Due.row(18, x, c, 1, 2, 3);
            Due.is("into itself", x.echo(c, 2, c), 3);
            Due.row(18, x, c, 0, 3, 2);
            Due.is("into itself over BACK", x.echo(c, 5, c), 3);
            Due.row(18, x, c, 2, 3, 0);
            Due.is("into itself over SWALLOW", x.echo(c, 6, c), 2);
            Due.row(18, x, c, 0, 2);
            Due.is("over no ROCKS", x.echo(d, 0, c), 3);
            Due.row(18, x, c, 3, 2, 1);
            x.set(5, 1, 0);
            Due.is("into none", x.echo(c, 6, d), 0);
            Due.row(18, x, d);
            Due.is("none into one", x.echo(d, 1, c), 0);
            Due.row(18, x, c);
        });
        doc.promise(18, "BEYOND.", () -> refusals.of(18, Due.BEYOND));
    }

    private void made() {
        doc.promise(19, "WHICH ROCKS make one CALL of another one.", () -> {
            GorgeRocks x = withEachKind(0);
            int c = Due.call(x, 1, 4, 90, 2);
            int none = Due.call(x);
            int[][] rows = {{1, 4, 90, 2}, {0, 5, 90, 3}, {1, 5, 90, 3}, {1, 4, 70, 2}, {2, 90, 4, 1}, {}};
            int[] due = {1, 2 | 64, 4, 8, 16, 32};
            int d = x.call();
            for (int i = 0; i < rows.length; i++) {
                Due.say(x, d, rows[i]);
                Due.is("which makes row " + i, x.which(d, c), due[i]);
            }
            Due.is("none of none", x.which(none, none), 127);
            Due.is("of none comes none", x.which(c, none), 0);
            x.rock(0, 0);
            Due.is("ROCK 7, too", x.which(c, c), 1 | 128);
        });
        doc.promise(19, "BEYOND.", () -> refusals.of(19, Due.BEYOND));
        doc.promise(20, "WAYS by k.", () -> {
            GorgeRocks x = new GorgeRocks();
            int c = Due.call(x, 2);
            int d = Due.call(x, 3);
            for (int k = 0; k <= 3; k++) {
                Due.is("no ROCKS, itself by " + k, x.ways(c, c, k), 1);
                Due.is("no ROCKS, another by " + k, x.ways(c, d, k), 0);
            }
            for (int i = 0; i < 8; i++) {
                x.rock(0, 0);
            }
            int[] all = {1, 9, 73, 585};
            for (int k = 0; k <= 3; k++) {
                Due.is("8 ROCKS that leave it, by " + k, x.ways(c, c, k), all[k]);
                Due.is("another one by " + k, x.ways(c, d, k), 0);
            }
            x.set(7, 0, 1);
            int[] turned = {0, 1, 1 + 14, 1 + 14 + 3 * 49 + 1};
            for (int k = 0; k <= 3; k++) {
                Due.is("one NAY among 8, by " + k, x.ways(c, d, k), turned[k]);
            }
        });
        doc.promise(20, "BEYOND: CALLS, k 0 .. 3.", () -> {
            refusals.of(20, Due.BEYOND);
            GorgeRocks x = Scenes.rich();
            Due.is("k 0", x.ways(0, 0, 0), 1);
            Due.is("k 3, and the last CALL", x.ways(3, 3, 3), 1 + 6 + 36 + 216);
        });
    }

    private void needs() {
        doc.promise(21, "NEED: the i-th SOUND (i -1: how many).", () -> {
            GorgeRocks x = withEachKind(0);
            int c = Due.call(x, 1, 2, 90, 50, 3, 4, 5, 6, 7, 8, 9, 10);
            int none = Due.call(x);
            Due.needed(21, x, c, 0, 1, 2, 90, 50, 3, 4, 5, 6, 7, 8, 9, 10);
            Due.needed(21, x, c, 2, 0, 3, 90, 51, 2, 5, 4, 7, 6, 9, 8, 11);
            Due.needed(21, x, c, 5, 10, 9, 8, 7, 6, 5, 4, 3, 50, 90, 2, 1);
            Due.needed(21, x, none, 2345);
            Due.is("-1 of none", x.need(none, 0, -1), 0);
            Due.row(21, x, c, 1, 2, 90, 50, 3, 4, 5, 6, 7, 8, 9, 10);
        });
        doc.promise(21, "BEYOND as of heard().", () -> refusals.of(21, Due.BEYOND));
        doc.promise(21, "STATE: the WAY can't be undone (ahead of BEYOND of i that there is none such).",
                () -> refusals.of(21, Due.STATE));
    }

    private void meanings() {
        doc.promise(22, "MEANT by k.", () -> {
            GorgeRocks x = new GorgeRocks();
            int c = Due.call(x, 2, 4, 90);
            Due.is("no ROCKS", x.meant(c, 2), 1);
            x.rock(10, 0);
            x.rock(40, 0);
            int[] due = {1, 3, 4};
            for (int k = 0; k <= 2; k++) {
                Due.is("by " + k, x.meant(c, k), due[k]);
            }
        });
        doc.promise(22, "BEYOND.", () -> refusals.of(22, Due.BEYOND));
        doc.promise(23, "PLACE by k: what 0 which, 1 how many.", () -> {
            GorgeRocks x = new GorgeRocks();
            int c = Due.call(x, 40, 4, 90);
            x.rock(10, 0);
            x.rock(40, 0);
            // By 1: 40 4 90, 40 5 90, 90 4 40; by 2 also 90 5 40.
            Due.is("which by 0", x.place(c, 0, 0), 0);
            Due.is("how many by 0", x.place(c, 0, 1), 1);
            Due.is("which by 1", x.place(c, 1, 0), 0);
            Due.is("how many by 1", x.place(c, 1, 1), 2);
            Due.say(x, c, 40, 4, 40);
            Due.is("which by 2", x.place(c, 2, 0), 1);
            Due.is("how many by 2", x.place(c, 2, 1), 2);
        });
        doc.promise(23, "BEYOND: k 0 .. 2.", () -> refusals.of(23, Due.BEYOND));
    }

    private void safety() {
        doc.promise(24, "SAFE (what 0), UNSAFE (1).", () -> {
            GorgeRocks x = withEachKind(9);
            int c = Due.call(x, 40, 80, 40);
            int none = Due.call(x);
            Due.is("safe", x.safe(c, 0), 127);
            Due.is("unsafe", x.safe(c, 1), 0);
            Due.is("an empty one is safe", x.safe(none, 0), 127);
            Due.is("and has none unsafe", x.safe(none, 1), 0);
            Due.say(x, c, 1, 50, 61, 2, 51, 99, 3, 4, 5, 6, 7, 8);
            Due.is("ROCK alone", x.safe(c, 0), 1);
            Due.is("all 12", x.safe(c, 1), 12);
        });
        doc.promise(24, "BEYOND.", () -> refusals.of(24, Due.BEYOND));
        doc.promise(25, "PART of two WAYS.", () -> {
            GorgeRocks x = withEachKind(1);
            int c = Due.call(x, 40, 40, 40, 40, 40, 40, 40, 40, 40, 40, 40, 2);
            Due.is("the last place", x.part(c, 0, 2), 11);
            Due.is("the other way round", x.part(c, 2, 0), 11);
            Due.is("the first place", x.part(c, 5, 0), 0);
            Due.is("over four ROCKS", x.part(c, 2222, 2), 11);
            Due.say(x, c, 40, 40);
            Due.is("one that lacks it", x.part(c, 0, 6), 1);
            x.set(5, 1, 0);
            Due.is("one that lacks all", x.part(c, 6, 0), 0);
        });
        doc.promise(25, "BEYOND.", () -> refusals.of(25, Due.BEYOND));
        doc.promise(25, "NONE: a CALL is HEARD alike by both.", () -> refusals.of(25, Due.NONE));
    }
}
