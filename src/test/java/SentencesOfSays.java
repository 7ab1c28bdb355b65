/** Promises 26 to 28, sentence by sentence. */
final class SentencesOfSays {
    private final Doc doc;
    private final Refusals refusals;

    SentencesOfSays(Doc doc, Refusals refusals) {
        this.doc = doc;
        this.refusals = refusals;
    }

    void all() {
        reads();
        sets();
        says();
    }

    private void reads() {
        doc.promise(26, "A CALL READS: 1; else -10 less the FAULT (no ERROR).", () -> {
            GorgeRocks x = new GorgeRocks();
            int c = x.call();
            Due.is("an empty one", x.reads(c), -10);
            Due.say(x, c, 49);
            Due.is("one WORD", x.reads(c), 1);
            Due.say(x, c, 60);
            Due.is("one NUMBER", x.reads(c), -10);
            Due.say(x, c, 1, 2);
            Due.is("two WORDS", x.reads(c), -11);
            Due.say(x, c, 1, 50, 2, 51, 3, 50, 4, 51, 5, 50, 6, 51);
            Due.is("12 that end too early", x.reads(c), -22);
            Due.say(x, c, 1, 50, 2, 51, 3, 50, 4, 51, 5, 50, 6, 7);
            Due.is("the 12th can't stand", x.reads(c), -21);
            Due.say(x, c, 1, 50, 2, 51, 3, 50, 4, 51, 5, 50, 6, 99);
            Due.is("12 that read", x.reads(c), 1);
            for (int k = 1; k <= 6; k++) {
                Due.is("told(" + k + ")", x.told(k), 0);
            }
        });
        doc.promise(26, "BEYOND.", () -> refusals.of(26, Due.BEYOND));
    }

    private void sets() {
        doc.promise(27, "SO becomes a set (0 .. 1048575): what it was.", () -> {
            GorgeRocks x = new GorgeRocks();
            Due.is("the greatest", x.so(1048575), 0);
            Due.is("count(5)", x.count(5), 1048575);
            Due.is("the least", x.so(0), 1048575);
            Due.is("count(5)", x.count(5), 0);
            Due.is("one", x.so(524288), 0);
            Due.is("the same", x.so(524288), 524288);
        });
        doc.promise(27, "BEYOND.", () -> refusals.of(27, Due.BEYOND));
    }

    private void says() {
        doc.promise(28, "SAYS of a CALL as HEARD over a WAY.", () -> {
            GorgeRocks x = SentencesOfBack.withEachKind(1);
            int c = Due.call(x, 0, 51, 2);
            x.so(1);
            Due.is("as it is", x.says(c, 0), 1);
            Due.is("NAY", x.says(c, 2), 0);
            Due.is("NAY twice", x.says(c, 22), 1);
            Due.is("BACK", x.says(c, 5), 1);
            Due.is("SECOND: OR is AND", x.says(c, 3), 0);
            Due.is("SWALLOW: two WORDS", x.says(c, 6), Due.NONE);
            Due.say(x, c, 0, 51, 2, 51);
            Due.is("it does not READ as called", x.says(c, 0), Due.NONE);
            Due.is("it does as HEARD: 51 2 51 0, less two", x.says(c, 6), Due.NONE);
            Due.say(x, c, 51, 0);
            Due.is("nor does 51 0", x.says(c, 0), Due.NONE);
            Due.is("but SWALLOW leaves 0 alone", x.says(c, 6), 1);
        });
        doc.promise(28, "BEYOND.", () -> refusals.of(28, Due.BEYOND));
        doc.promise(28, "NONE: that doesn't READ.", () -> refusals.of(28, Due.NONE));
    }
}
