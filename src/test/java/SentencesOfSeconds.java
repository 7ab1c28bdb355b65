/** Promises 29 to 31, sentence by sentence. */
final class SentencesOfSeconds {
    private final Doc doc;
    private final Refusals refusals;

    SentencesOfSeconds(Doc doc, Refusals refusals) {
        this.doc = doc;
        this.refusals = refusals;
    }

    void all() {
        shouts();
        seconds();
        rows();
    }

    private void shouts() {
        doc.promise(29, "A SHOUT: when it will be HEARD.", () -> {
            GorgeRocks x = new GorgeRocks();
            int c = Due.call(x, 1);
            x.rock(0, 0);
            x.rock(0, 1);
            x.rock(0, 20);
            Due.is("DELAY 0", x.shout(c, 0), 0);
            Due.is("DELAY 1", x.shout(c, 1), 1);
            Due.is("DELAY 20", x.shout(c, 2), 20);
            Due.is("on their way", x.count(3), 2);
            x.seconds(5);
            Due.is("DELAY 0", x.shout(c, 0), 5);
            Due.is("DELAY 20", x.shout(c, 2), 25);
            GorgeRocks late = Scenes.late();
            Due.is("above 9999", late.shout(0, 3), Scenes.LATE_NOW + 20);
            late.seconds(9999 - Scenes.LATE_NOW);
            Due.is("above 9999", late.shout(0, 3), 10019);
            Due.is("at 9999", late.shout(0, 1), 9999);
        });
        doc.promise(29, "BEYOND.", () -> refusals.of(29, Due.BEYOND));
        doc.promise(29, "FULL: 10 are on their way (also with DELAY 0).", () -> {
            refusals.of(29, Due.FULL);
            GorgeRocks x = new GorgeRocks();
            int c = Due.call(x, 1);
            x.rock(0, 0);
            x.rock(0, 1);
            for (int i = 0; i < 20; i++) {
                Due.is("of DELAY 0 none is on its way", x.shout(c, 0), 0);
            }
            for (int i = 1; i <= 9; i++) {
                x.shout(c, 1);
            }
            Due.is("9 are on their way", x.shout(c, 0), 0);
            Due.is("a 10th", x.shout(c, 1), 1);
            Due.is("10 are", x.shout(c, 0), Due.FULL);
            Due.is("10 are", x.shout(c, 1), Due.FULL);
            x.seconds(1);
            Due.is("none is any more", x.shout(c, 1), 2);
        });
    }

    private void seconds() {
        doc.promise(30, "n (1 .. 60) SECONDS: NOW.", () -> {
            GorgeRocks x = new GorgeRocks();
            Due.is("the least", x.seconds(1), 1);
            Due.is("the greatest", x.seconds(60), 61);
            Due.is("the least", x.seconds(1), 62);
            Due.is("count(2)", x.count(2), 62);
        });
        doc.promise(30, "BEYOND.", () -> refusals.of(30, Due.BEYOND));
        doc.promise(30, "STATE: NOW would be above 9999.", () -> {
            refusals.of(30, Due.STATE);
            GorgeRocks x = Scenes.late();
            int most = 9999 - Scenes.LATE_NOW;
            Due.is("one too many", x.seconds(most + 1), Due.STATE);
            Due.is("up to 9998", x.seconds(most - 1), 9998);
            Due.is("two", x.seconds(2), Due.STATE);
            Due.is("9999", x.seconds(1), 9999);
            Due.is("one more", x.seconds(1), Due.STATE);
            Due.is("60 more", x.seconds(60), Due.STATE);
            Due.is("NOW stays", x.count(2), 9999);
        });
    }

    private void rows() {
        doc.promise(31, "THE LOG: the i-th SOUND (i -1: how many) of the row that came k ahead of the latest (0 that).", () -> {
            GorgeRocks x = new GorgeRocks();
            int c = x.call();
            x.rock(0, 0);
            for (int n = 0; n < 8; n++) {
                x.shout(c, 0);
                x.sound(c, 90 + n);
            }
            for (int k = 0; k < 8; k++) {
                int n = 7 - k;
                Due.is("how many", x.log(k, -1), n);
                for (int i = 0; i < n; i++) {
                    Due.is("log(" + k + ", " + i + ")", x.log(k, i), 90 + i);
                }
            }
            Due.say(x, c, 0, 1, 2, 3, 4, 5, 6, 7, 8, 9, 10, 11);
            x.shout(c, 0);
            Due.logged(31, x, 0, 0, 1, 2, 3, 4, 5, 6, 7, 8, 9, 10, 11);
        });
        doc.promise(31, "BEYOND: i below -1, or there is none such.", () -> refusals.of(31, Due.BEYOND));
        doc.promise(31, "NONE: there is no such row (ahead of BEYOND).", () -> refusals.of(31, Due.NONE));
    }
}
