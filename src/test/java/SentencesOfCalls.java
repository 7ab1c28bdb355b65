/** Promises 1 to 11, sentence by sentence. */
final class SentencesOfCalls {
    private final Doc doc;
    private final Refusals refusals;

    SentencesOfCalls(Doc doc, Refusals refusals) {
        this.doc = doc;
        this.refusals = refusals;
    }

    void all() {
        newObject();
        calls();
        sounds();
        draws();
        contraries();
        rocks();
        kinds();
        settings();
    }

    private void newObject() {
        doc.promise(1, "No CALLS, ROCKS;", () -> {
            GorgeRocks x = new GorgeRocks();
            Due.is("CALLS", x.count(0), 0);
            Due.is("ROCKS", x.count(1), 0);
            Due.is("CALL 0", x.soundOf(0, -1), Due.BEYOND);
            Due.is("ROCK 0", x.rockIs(0, 0), Due.BEYOND);
            Due.is("a WAY over none", x.takes(0), 0);
            Due.is("a WAY over ROCK 0", x.takes(1), Due.BEYOND);
        });
        doc.promise(1, "NOW is 0;", () -> {
            GorgeRocks x = new GorgeRocks();
            Due.is("NOW", x.count(2), 0);
            x.call();
            x.rock(0, 20);
            Due.is("shout", x.shout(0, 0), 20);
            Due.is("the first second", x.seconds(1), 1);
        });
        doc.promise(1, "nothing is SO.", () -> {
            GorgeRocks x = new GorgeRocks();
            Due.is("SO", x.count(5), 0);
            int c = x.call();
            for (int word = 0; word < 40; word++) {
                Due.say(x, c, word);
                Due.is("WORD " + word, x.says(c, 0), word % 2);
            }
            Due.is("so(0)", x.so(0), 0);
        });
    }

    private void calls() {
        doc.promise(2, "An empty CALL: its number.", () -> {
            GorgeRocks x = new GorgeRocks();
            for (int i = 0; i < 12; i++) {
                Due.is("call()", x.call(), i);
                Due.is("how many SOUNDS", x.soundOf(i, -1), 0);
                Due.is("count(0)", x.count(0), i + 1);
                x.sound(i, i);
            }
            Due.is("CALL 0 stays", x.soundOf(0, 0), 0);
            Due.is("CALL 11 stays", x.soundOf(11, 0), 11);
        });
        doc.promise(2, "FULL.", () -> refusals.of(2, Due.FULL));
    }

    private void sounds() {
        doc.promise(3, "One SOUND more behind a CALL: how many it has.", () -> {
            GorgeRocks x = new GorgeRocks();
            for (int i = 0; i < 12; i++) {
                x.call();
            }
            int[] row = {0, 53, 60, 99, 39, 40, 49, 50, 51, 52, 80, 0};
            for (int call : new int[] {0, 11}) {
                for (int i = 0; i < 12; i++) {
                    Due.is("sound " + i, x.sound(call, row[i]), i + 1);
                }
                Due.row(3, x, call, row);
            }
            Due.row(3, x, 1);
            Due.row(3, x, 10);
        });
        doc.promise(3, "BEYOND.", () -> refusals.of(3, Due.BEYOND));
        doc.promise(3, "FULL: it has 12.", () -> refusals.of(3, Due.FULL));
        doc.promise(4, "The i-th SOUND of a CALL (i -1: how many).", () -> {
            GorgeRocks x = new GorgeRocks();
            int none = Due.call(x);
            int c = Due.call(x, 5, 4, 3, 2, 1, 0, 99, 98, 97, 96, 95, 94);
            Due.is("-1 of none", x.soundOf(none, -1), 0);
            Due.is("-1 of 12", x.soundOf(c, -1), 12);
            Due.is("the first", x.soundOf(c, 0), 5);
            Due.is("the 6th", x.soundOf(c, 5), 0);
            Due.is("the last", x.soundOf(c, 11), 94);
        });
        doc.promise(4, "BEYOND.", () -> refusals.of(4, Due.BEYOND));
        doc.promise(5, "A CALL is empty: how many SOUNDS it had.", () -> {
            GorgeRocks x = new GorgeRocks();
            int none = Due.call(x);
            int one = Due.call(x, 9);
            int twelve = Due.call(x, 0, 1, 2, 3, 4, 5, 6, 7, 8, 9, 10, 11);
            Due.is("an empty one", x.hush(none), 0);
            Due.is("12", x.hush(twelve), 12);
            Due.row(5, x, twelve);
            Due.is("none then", x.hush(twelve), 0);
            Due.row(5, x, one, 9);
            Due.is("it may be filled anew", x.sound(twelve, 7), 1);
            Due.row(5, x, twelve, 7);
        });
        doc.promise(5, "BEYOND.", () -> refusals.of(5, Due.BEYOND));
    }

    private void draws() {
        doc.promise(6, "A CALL becomes n (0 .. 12) DRAWN SOUNDS: how many of these are their own CONTRARIES.", () -> {
            GorgeRocks x = new GorgeRocks();
            int c = Due.call(x, 1, 2, 3);
            int z = -77;
            x.seed(z);
            for (int n = 12; n >= 0; n--) {
                int[] row = new int[n];
                int own = 0;
                for (int i = 0; i < n; i++) {
                    z = z * 1103515245 + 12345;
                    int rest = (z >>> 8) % 100;
                    row[i] = rest >= 54 && rest <= 59 ? 60 : rest;
                    own += x.contrary(row[i]) == row[i] ? 1 : 0;
                }
                Due.is("draw(" + n + ")", x.draw(c, n), own);
                Due.row(6, x, c, row);
                Due.is("z", x.count(9), z);
            }
        });
        doc.promise(6, "BEYOND.", () -> refusals.of(6, Due.BEYOND));
    }

    private void contraries() {
        doc.promise(7, "The CONTRARY of a SOUND.", () -> {
            GorgeRocks x = new GorgeRocks();
            int[][] pairs = {{0, 1}, {1, 0}, {38, 39}, {39, 38}, {40, 40}, {49, 49}, {50, 51}, {51, 50}, {52, 52}, {53, 53},
                {60, 60}, {61, 99}, {79, 81}, {80, 80}, {81, 79}, {99, 61}};
            for (int[] pair : pairs) {
                Due.is("contrary(" + pair[0] + ")", x.contrary(pair[0]), pair[1]);
            }
            for (int s = 0; s < 100; s++) {
                if (s < 54 || s > 59) {
                    Due.is("twice, of " + s, x.contrary(x.contrary(s)), s);
                }
            }
        });
        doc.promise(7, "BEYOND: it is none.", () -> refusals.of(7, Due.BEYOND));
    }

    private void rocks() {
        doc.promise(8, "A ROCK: its number.", () -> {
            GorgeRocks x = new GorgeRocks();
            for (int i = 0; i < 8; i++) {
                Due.is("rock", x.rock(0, i == 0 ? 0 : 20), i);
                Due.is("count(1)", x.count(1), i + 1);
            }
            Due.is("DELAY of the first", x.rockIs(0, 2), 0);
            Due.is("DELAY of the last", x.rockIs(7, 2), 20);
        });
        doc.promise(8, "km: 10 times the KIND, and m.", () -> {
            for (int km : new int[] {0, 1, 9, 10, 19, 20, 59, 60, 69}) {
                GorgeRocks x = new GorgeRocks();
                Due.is("rock(" + km + ", 7)", x.rock(km, 7), 0);
                Due.is("KIND", x.rockIs(0, 0), km / 10);
                Due.is("m", x.rockIs(0, 1), km % 10);
                Due.is("DELAY", x.rockIs(0, 2), 7);
            }
        });
        doc.promise(8, "BEYOND.", () -> refusals.of(8, Due.BEYOND));
        doc.promise(8, "FULL.", () -> refusals.of(8, Due.FULL));
        doc.promise(9, "Of a ROCK: 0 KIND, 1 m, 2 DELAY.", () -> {
            GorgeRocks x = new GorgeRocks();
            x.rock(58, 3);
            x.rock(0, 0);
            x.rock(69, 20);
            int[][] due = {{5, 8, 3}, {0, 0, 0}, {6, 9, 20}};
            for (int rock = 0; rock < 3; rock++) {
                for (int what = 0; what < 3; what++) {
                    Due.is("rockIs(" + rock + ", " + what + ")", x.rockIs(rock, what), due[rock][what]);
                }
            }
        });
        doc.promise(9, "BEYOND.", () -> refusals.of(9, Due.BEYOND));
    }

    private void kinds() {
        doc.promise(10, "A ROCK as one of a KIND: DELAY.", () -> {
            GorgeRocks x = new GorgeRocks();
            for (int kind = 0; kind < 7; kind++) {
                x.rock(10 * kind, 20 - kind);
            }
            for (int kind = 0; kind < 7; kind++) {
                Due.is("as itself", x.as(kind, kind), 20 - kind);
                Due.is("as ROCK", x.as(kind, 0), 20 - kind);
            }
            Due.is("SECOND as NAY", x.as(2, 1), 18);
            Due.is("SWALLOW as BACK", x.as(5, 4), 15);
            Due.is("TOLD as NAY", x.as(6, 1), 14);
            x.set(6, 2, 0);
            Due.is("DELAY 0", x.as(6, 6), 0);
        });
        doc.promise(10, "BEYOND.", () -> refusals.of(10, Due.BEYOND));
        doc.promise(10, "KIND: it is not of that KIND, nor of one under it.", () -> {
            GorgeRocks x = new GorgeRocks();
            x.rock(0, 1);
            String[] under = {"0", "01", "012", "03", "04", "045", "016"};
            for (int kind = 0; kind < 7; kind++) {
                x.set(0, 0, kind);
                for (int as = 0; as < 7; as++) {
                    boolean fits = under[kind].indexOf('0' + as) >= 0;
                    Due.is(kind + " as " + as, x.as(0, as), fits ? 1 : Due.KIND);
                }
            }
            refusals.of(10, Due.KIND);
        });
    }

    private void settings() {
        doc.promise(11, "KIND (what 0), m (1), DELAY (2) of a ROCK becomes v: what it was.", () -> {
            GorgeRocks x = new GorgeRocks();
            x.rock(23, 4);
            x.rock(35, 6);
            int[] was = {3, 5, 6};
            int[] most = {6, 9, 20};
            for (int what = 0; what < 3; what++) {
                Due.is("the greatest", x.set(1, what, most[what]), was[what]);
                Due.is("it is", x.rockIs(1, what), most[what]);
                Due.is("the same again", x.set(1, what, most[what]), most[what]);
                Due.is("the least", x.set(1, what, 0), most[what]);
                Due.is("it is", x.rockIs(1, what), 0);
                Due.is("another ROCK stays", x.rockIs(0, what), what + 2);
            }
        });
        doc.promise(11, "BEYOND.", () -> refusals.of(11, Due.BEYOND));
    }
}
