/** Promises 34 and 35, sentence by sentence. */
final class SentencesOfVoices {
    private final Doc doc;
    private final Refusals refusals;

    SentencesOfVoices(Doc doc, Refusals refusals) {
        this.doc = doc;
        this.refusals = refusals;
    }

    void all() {
        doc.promise(34, "A VOICE of a ROCK.", () -> {
            GorgeRocks x = new GorgeRocks();
            for (int i = 0; i < 8; i++) {
                x.rock(9, 0);
            }
            int[] first = {7, 14, 5, 0};
            int[] last = {14, 28, 19, 3};
            for (int voice = 0; voice < 4; voice++) {
                Due.is("voice " + voice + " of ROCK 0", x.voice(0, voice, 7), first[voice]);
                Due.is("voice " + voice + " of ROCK 7", x.voice(7, voice, 7), last[voice]);
            }
            x.set(7, 0, 4);
            Due.is("as it is now", x.voice(7, 0, 7), 42);
            for (int v = -1000006; v <= -1000001; v++) {
                Due.is("an answer like an ERROR", x.voice(0, 0, v), v);
                Due.is("is none", x.told(-1000000 - v), 0);
            }
        });
        doc.promise(34, "BEYOND.", () -> refusals.of(34, Due.BEYOND));
        doc.promise(34, "PARTED.", () -> {
            refusals.of(34, Due.PARTED);
            GorgeRocks x = new GorgeRocks();
            for (int i = 0; i < 8; i++) {
                x.rock(i, 0);
            }
            for (int rock = 0; rock < 8; rock++) {
                Due.is("m is k", x.voice(rock, 3, 5), Due.PARTED);
                Due.is("told(6)", x.told(6), rock + 1);
                Due.is("turns of it", x.voice(rock, 0, 5), 5 + rock);
                Due.is("m was", x.set(rock, 1, rock + 1), rock);
                Due.is("m is 1 more", x.voice(rock, 3, 5), 5);
            }
        });
        doc.promise(35, "THE TRACE's i-th.", () -> {
            GorgeRocks x = new GorgeRocks();
            x.rock(65, 0);
            x.voice(0, 3, 7);
            trace(x, 71, 21, 13, 11, 70, 12, 11, 70);
            x.voice(0, 0, 7);
            trace(x, 70);
            x.voice(0, 2, 7);
            trace(x, 12, 11, 70);
        });
        doc.promise(35, "NONE: there is none such.", () -> refusals.of(35, Due.NONE));
    }

    static void trace(GorgeRocks x, int... due) {
        Due.is("BODIES", x.count(8), due.length);
        for (int i = 0; i < due.length; i++) {
            Due.is("body(" + i + ")", x.body(i), due[i]);
        }
        Due.is("behind them", x.body(due.length), Due.NONE);
    }
}
