/** Promises 40 to 45, sentence by sentence. */
final class SentencesOfTold {
    private final Doc doc;
    private final Refusals refusals;

    SentencesOfTold(Doc doc, Refusals refusals) {
        this.doc = doc;
        this.refusals = refusals;
    }

    void all() {
        images();
        waiting();
        counts();
        errors();
    }

    /** Nothing is left as it was. */
    private static void change(GorgeRocks x) {
        x.call();
        Due.say(x, 0, 30, 31, 32);
        x.echo(0, 0, 3);
        x.hush(1);
        x.rock(55, 5);
        x.set(0, 0, 4);
        x.set(0, 1, 9);
        x.set(0, 2, 19);
        // What THE TAPE has goes first, so that both are TEXTS.
        x.text(0);
        Due.is("other TURNS", Due.text(x, 0, "m"), 1);
        x.untell(1);
        Due.feed(x, "n+n");
        x.so(1);
        x.seed(3);
        x.check(0, 0);
        x.tell(2);
        x.shout(0, 0);
        x.seconds(7);
        x.shout(0, 1);
        x.shout(0, 2);
    }

    private void images() {
        doc.promise(40, "All (but SHEETS, THE TRACE, what told() tells, and how often this was done) is kept as an IMAGE, "
                + "in place of one ahead: how often that was done.", () -> {
            GorgeRocks x = Scenes.rich();
            Due.is("the second time", x.image(), 2);
            Due.is("the third time", x.image(), 3);
            change(x);
            x.restore();
            GorgeRocks twin = Scenes.rich();
            twin.image();
            twin.image();
            Twins.alike(40, "image(), restore()", x, twin);
            notKept();
            GorgeRocks y = new GorgeRocks();
            for (int i = 1; i <= 30; i++) {
                Due.is("image() of a new object", y.image(), i);
            }
            y.call();
            y.restore();
            Due.is("how often that was done is no part of it", y.image(), 31);
            Due.is("the IMAGE ahead had no CALL", y.count(0), 0);
        });
        doc.promise(41, "All is as the IMAGE has it, which stays: NOW.", () -> {
            GorgeRocks x = Scenes.rich();
            x.image();
            for (int i = 0; i < 4; i++) {
                change(x);
                Due.is("restore()", x.restore(), 7);
            }
            Due.is("restore() twice", x.restore(), 7);
            GorgeRocks twin = Scenes.rich();
            twin.image();
            Twins.alike(41, "restore()", x, twin);
            textsOfImage();
            GorgeRocks y = new GorgeRocks();
            y.image();
            y.seconds(9);
            Due.is("the IMAGE of a new object", y.restore(), 0);
            logOfImage();
        });
        doc.promise(41, "NONE: there is none.", () -> refusals.of(41, Due.NONE));
    }

    /** THE LOG is full, both as the IMAGE has it and behind it. */
    private static void logOfImage() {
        GorgeRocks x = new GorgeRocks();
        int c = x.call();
        x.rock(0, 0);
        for (int i = 0; i < 13; i++) {
            Due.say(x, c, i);
            x.shout(c, 0);
        }
        x.image();
        for (int i = 20; i < 35; i++) {
            Due.say(x, c, i, i);
            x.shout(c, 0);
        }
        for (int times = 0; times < 2; times++) {
            x.restore();
            Due.is("rows", x.count(4), 8);
            for (int k = 0; k < 8; k++) {
                Due.logged(41, x, k, 12 - k);
            }
            Due.say(x, c, 50);
            x.shout(c, 0);
            Due.logged(41, x, 0, 50);
            Due.logged(41, x, 7, 6);
        }
    }

    /** TEXTS that the IMAGE has come again, and those that it has not are gone. */
    private static void textsOfImage() {
        GorgeRocks x = new GorgeRocks();
        Due.call(x, 44);
        x.rock(60, 0);
        x.image();
        Due.text(x, 0, "s+1");
        Due.text(x, 1, "o+2");
        Due.is("TURNS", x.heard(0, 1, 0), 45);
        Due.is("OFFERS", x.bargain(3010, 0, 0, 1, 3), -8);
        x.restore();
        Due.is("no TURNS again", x.heard(0, 1, 0), 44);
        Due.is("no OFFERS again", x.bargain(3010, 0, 0, 1, 3), -9);
        Due.is("untell(0)", x.untell(0), 0);
        Due.is("untell(1)", x.untell(1), 0);
        Due.text(x, 0, "s-1");
        Due.text(x, 1, "o+3");
        x.image();
        x.untell(0);
        Due.text(x, 1, "o");
        for (int times = 0; times < 2; times++) {
            x.restore();
            Due.is("TURNS again", x.heard(0, 1, 0), 43);
            Due.is("OFFERS again", x.bargain(3010, 0, 0, 1, 3), -7);
            Due.is("untell(0)", x.untell(0), 1);
            Due.is("untell(1)", x.untell(1), 1);
        }
    }

    private static void notKept() {
        GorgeRocks x = new GorgeRocks();
        x.call();
        x.rock(0, 0);
        x.sheet(0, 8, 1);
        x.voice(0, 0, 0);
        x.told(0);
        x.image();
        x.sheet(0, 8, 3);
        x.put(0, 2, 9);
        x.voice(0, 2, 0);
        x.told(0);
        x.restore();
        SentencesOfSheets.numbers(x, 0, 0, 0, 9);
        SentencesOfVoices.trace(x, 12, 11, 10);
        Due.is("told(1)", x.told(1), 2 + 2);
    }

    private void waiting() {
        doc.promise(42, "One more number waits: how many.", () -> {
            GorgeRocks x = new GorgeRocks();
            int i = 0;
            for (int v : new int[] {0, -1, 99, 100, Integer.MIN_VALUE, Integer.MAX_VALUE}) {
                i++;
                Due.is("tell(" + v + ")", x.tell(v), i);
                Due.is("count(7)", x.count(7), i);
            }
            while (i < 24) {
                i++;
                Due.is("tell", x.tell(1), i);
            }
        });
        doc.promise(42, "FULL: 24 wait.", () -> {
            refusals.of(42, Due.FULL);
            GorgeRocks x = Scenes.full();
            x.check(0, 0);
            Due.is("none wait behind check()", x.tell(1), 1);
        });
        doc.promise(43, "The numbers that wait (none do then) are SOUNDS of a CALL as HEARD over a WAY: 0; "
                + "else 1 and the place of the first that isn't so (one that lacks, or is too many, too).", this::checks);
        doc.promise(43, "BEYOND (none wait then, too).", () -> refusals.of(43, Due.BEYOND));
    }

    private static int check(GorgeRocks x, int call, int way, int... numbers) {
        for (int v : numbers) {
            x.tell(v);
        }
        int answer = x.check(call, way);
        Due.is("none wait then", x.count(7), 0);
        return answer;
    }

    private void checks() {
        GorgeRocks x = new GorgeRocks();
        int c = Due.call(x, 0, 1, 2, 3, 4, 5, 6, 7, 8, 9, 10, 99);
        int none = Due.call(x);
        x.rock(40, 0);
        Due.is("all 12", check(x, c, 0, 0, 1, 2, 3, 4, 5, 6, 7, 8, 9, 10, 99), 0);
        Due.is("as HEARD", check(x, c, 1, 99, 10, 9, 8, 7, 6, 5, 4, 3, 2, 1, 0), 0);
        Due.is("over four ROCKS", check(x, c, 1111, 0, 1, 2, 3, 4, 5, 6, 7, 8, 9, 10, 99), 0);
        Due.is("the first isn't so", check(x, c, 0, 1, 1, 2, 3, 4, 5, 6, 7, 8, 9, 10, 99), 1);
        Due.is("the last isn't so", check(x, c, 0, 0, 1, 2, 3, 4, 5, 6, 7, 8, 9, 10, 98), 12);
        Due.is("the last lacks", check(x, c, 0, 0, 1, 2, 3, 4, 5, 6, 7, 8, 9, 10), 12);
        Due.is("a 13th is too many", check(x, c, 0, 0, 1, 2, 3, 4, 5, 6, 7, 8, 9, 10, 99, 0), 13);
        Due.is("24, of which 12 are too many",
                check(x, c, 0, 0, 1, 2, 3, 4, 5, 6, 7, 8, 9, 10, 99, 0, 1, 2, 3, 4, 5, 6, 7, 8, 9, 10, 99), 13);
        Due.is("none wait", check(x, c, 0), 1);
        Due.is("none wait, none are HEARD", check(x, none, 0), 0);
        Due.is("one is too many", check(x, none, 1, 0), 1);
        Due.is("no SOUND", check(x, c, 0, 0, 1, -1), 3);
        Due.is("256 is not 0", check(x, c, 0, 256), 1);
    }

    private void counts() {
        doc.promise(44, "0 CALLS, 1 ROCKS, 2 NOW, 3 ECHOES on their way, 4 rows in THE LOG, 5 SO, 6 bytes of THE TAPE, "
                + "7 numbers that wait, 8 BODIES in THE TRACE, 9 z (any number).", () -> {
            counted("a new object", new GorgeRocks(), 0, 0, 0, 0, 0, 0, 0, 0, 0, 1);
            counted("something of each", Scenes.rich(), 4, 6, 7, 3, 3, 693, 3, 3, 4, -5);
            counted("what is full", Scenes.full(), 12, 8, 0, 10, 8, 0, 60, 24, 0, 1);
            GorgeRocks x = new GorgeRocks();
            x.seed(-1000001);
            Due.is("z like an ERROR", x.count(9), -1000001);
            Due.is("is none", x.told(1), 0);
        });
        doc.promise(44, "BEYOND.", () -> refusals.of(44, Due.BEYOND));
    }

    private static void counted(String what, GorgeRocks x, int... due) {
        for (int i = 0; i < due.length; i++) {
            Due.is("count(" + i + ") of " + what, x.count(i), due[i]);
        }
    }

    private void errors() {
        doc.promise(45, "How many acts have answered an ERROR LOW - k (k 1 .. 6);", () -> {
            GorgeRocks x = new GorgeRocks();
            x.rock(0, 0);
            int[] due = new int[7];
            for (int k = 1; k <= 6; k++) {
                for (int n = 0; n < k; n++) {
                    err(x, k);
                    due[k]++;
                    for (int j = 1; j <= 6; j++) {
                        Due.is("told(" + j + ")", x.told(j), due[j]);
                    }
                }
            }
        });
        doc.promise(45, "BEYOND: another k (counted, too).", () -> {
            refusals.of(45, Due.BEYOND);
            GorgeRocks x = new GorgeRocks();
            Due.is("told(0)", x.told(0), Due.BEYOND);
            Due.is("counted", x.told(1), 1);
            Due.is("told(7)", x.told(7), Due.BEYOND);
            Due.is("counted", x.told(1), 2);
        });
    }

    /** An act that answers this ERROR; ROCK 0 of KIND 0, m 0 is all there is. */
    private static void err(GorgeRocks x, int k) {
        int got;
        switch (k) {
            case 1: got = x.hush(0); break;
            case 2: got = x.restore(); break;
            case 3: got = x.sheet(0, 8, -1); break;
            case 4:
                while (x.count(7) < 24) {
                    x.tell(0);
                }
                got = x.tell(0);
                break;
            case 5: got = x.as(0, 1); break;
            default: got = x.voice(0, 3, 1); break;
        }
        Due.is("ERROR " + k, got, -1000000 - k);
    }
}
