/** The terms' number 3 from SHOUTS on (ECHOES, bargains, draws), sentence by sentence. */
final class TermsOfTime {
    private final Doc doc;

    TermsOfTime(Doc doc) {
        this.doc = doc;
    }

    void all() {
        shouts();
        seconds();
        log();
        offers();
        heardOffers();
        turns();
        thoughts();
        closes();
        draws();
    }

    private void shouts() {
        doc.terms("A SHOUT of a CALL at a ROCK, NOW: an ECHO is on its way (at most 10), to be HEARD at NOW and DELAY "
                + "(what it sends back, as ROCK and CALL are then).", () -> {
            GorgeRocks x = new GorgeRocks();
            int c = Due.call(x, 2, 4);
            x.rock(0, 3);
            x.seconds(4);
            Due.is("NOW and DELAY", x.shout(c, 0), 7);
            for (int i = 2; i <= 10; i++) {
                x.shout(c, 0);
                Due.is("on their way", x.count(3), i);
            }
            Due.is("an 11th", x.shout(c, 0), Due.FULL);
            x.seconds(2);
            Due.is("not yet", x.count(3), 10);
            Due.is("not yet", x.log(0, -1), Due.NONE);
            x.seconds(1);
            Due.is("then", x.count(3), 0);
            Due.logged(3, x, 0, 2, 4);
            asTheyAreThen();
        });
    }

    private static void asTheyAreThen() {
        GorgeRocks x = new GorgeRocks();
        int c = Due.call(x, 2, 4, 90);
        x.rock(0, 2);
        x.shout(c, 0);
        x.set(0, 0, 1);
        x.set(0, 2, 9);
        x.sound(c, 6);
        x.seconds(2);
        // It comes when it was to come, of the CALL and by the KIND that are now.
        Due.logged(3, x, 0, 3, 5, 90, 7);
        Due.is("the new DELAY", x.shout(c, 0), 11);
        x.set(0, 2, 0);
        Due.is("at once", x.shout(c, 0), 2);
        x.hush(c);
        x.set(0, 0, 6);
        x.set(0, 1, 4);
        x.sound(c, 8);
        Due.text(x, 0, "s+m");
        x.seconds(9);
        Due.logged(3, x, 0, 13);
        x.set(0, 2, 1);
        x.set(0, 0, 5);
        Due.say(x, c, 1, 2, 3, 4, 5, 6);
        x.shout(c, 0);
        x.set(0, 1, 1);
        x.seconds(1);
        Due.logged(3, x, 0, 6, 4, 2);
        x.hush(c);
        Due.logged(3, x, 0, 6, 4, 2);
    }

    private void seconds() {
        doc.terms("SECONDS go by: NOW is 1 more; those whose time that is come to THE LOG (CALL's row as HEARD; as they were shouted):", () -> {
            GorgeRocks x = new GorgeRocks();
            int[] calls = {Due.call(x, 10), Due.call(x, 11), Due.call(x, 12), Due.call(x, 13)};
            x.rock(0, 5);
            x.rock(0, 3);
            x.rock(0, 2);
            x.rock(40, 20);
            // To come at 5, 3, 20, then at 5, 5, 4.
            x.shout(calls[0], 0);
            x.shout(calls[1], 1);
            x.shout(calls[1], 3);
            x.seconds(2);
            x.shout(calls[2], 1);
            x.set(0, 2, 3);
            x.shout(calls[3], 0);
            x.shout(calls[3], 2);
            Due.is("NOW", x.seconds(1), 3);
            Due.logged(3, x, 0, 11);
            Due.is("5 are left", x.count(3), 5);
            Due.is("NOW", x.seconds(1), 4);
            Due.logged(3, x, 0, 13);
            Due.is("4 are left", x.count(3), 4);
            Due.is("NOW", x.seconds(1), 5);
            Due.is("1 is left", x.count(3), 1);
            Due.logged(3, x, 2, 10);
            Due.logged(3, x, 1, 12);
            Due.logged(3, x, 0, 13);
            Due.is("rows", x.count(4), 5);
            Due.is("many at once", x.seconds(60), 65);
            Due.logged(3, x, 0, 11);
            Due.logged(3, x, 1, 13);
            Due.is("rows", x.count(4), 6);
            twoPerSecond();
            unlikeRocks();
        });
    }

    /** In a run of SECONDS each has its own order. */
    private static void twoPerSecond() {
        GorgeRocks x = new GorgeRocks();
        x.rock(0, 2);
        x.rock(0, 1);
        for (int i = 0; i < 6; i++) {
            x.shout(Due.call(x, 20 + i), i % 2);
        }
        x.seconds(60);
        int[] came = {21, 23, 25, 20, 22, 24};
        for (int k = 0; k < 6; k++) {
            Due.logged(3, x, 5 - k, came[k]);
        }
    }

    /** Each ECHO keeps its own CALL and ROCK while others come and go. */
    private static void unlikeRocks() {
        GorgeRocks x = new GorgeRocks();
        int[] kms = {10, 30, 40, 20, 51, 0};
        int[] delays = {4, 1, 6, 2, 5, 3};
        int[][] back = {{3, 90, 7, 44}, {2, 70, 6, 44}, {44, 6, 90, 2}, {2, 90, 6, 44}, {44, 90}, {2, 90, 6, 44, 50}};
        for (int i = 0; i < 6; i++) {
            x.rock(kms[i], delays[i]);
            int c = i < 5 ? Due.call(x, 2, 90, 6, 44) : Due.call(x, 2, 90, 6, 44, 50);
            Due.is("shout " + i, x.shout(c, i), delays[i]);
        }
        int[] came = {1, 3, 5, 0, 4, 2};
        for (int second = 1; second <= 6; second++) {
            x.seconds(1);
            Due.logged(3, x, 0, back[came[second - 1]]);
            Due.is("on their way", x.count(3), 6 - second);
        }
    }

    private void log() {
        doc.terms("THE LOG keeps the latest 8 rows.", () -> {
            GorgeRocks x = new GorgeRocks();
            int c = x.call();
            x.rock(0, 0);
            x.rock(0, 1);
            for (int i = 0; i < 19; i++) {
                Due.is("rows", x.count(4), Math.min(i, 8));
                Due.say(x, c, 60 + i);
                x.shout(c, i % 2);
                x.seconds(1);
            }
            for (int k = 0; k < 8; k++) {
                Due.logged(3, x, k, 78 - k);
            }
            Due.is("a 9th", x.log(8, -1), Due.NONE);
            Due.is("rows", x.count(4), 8);
        });
        doc.terms("An ECHO of DELAY 0 is in THE LOG at once.", () -> {
            GorgeRocks x = new GorgeRocks();
            int c = Due.call(x, 2, 50);
            int none = Due.call(x);
            x.rock(10, 0);
            x.rock(0, 1);
            x.shout(c, 1);
            Due.is("NOW", x.shout(c, 0), 0);
            Due.is("in THE LOG", x.count(4), 1);
            Due.is("not on its way", x.count(3), 1);
            Due.logged(3, x, 0, 3, 51);
            x.shout(none, 0);
            Due.is("an empty one is a row", x.count(4), 2);
            Due.is("of no SOUNDS", x.log(0, -1), 0);
            Due.is("of no SOUNDS", x.log(0, 0), Due.BEYOND);
            x.seconds(1);
            Due.logged(3, x, 0, 2, 50);
            Due.is("and comes but once", x.count(4), 3);
        });
    }

    private static int ab(int a, int b) {
        return SentencesOfBargains.ab(a, b);
    }

    private static void all(GorgeRocks x, int ab, int one, int other, int n, int... due) {
        SentencesOfBargains.all(x, ab, one, other, n, due);
    }

    private void offers() {
        doc.terms("A BARGAIN: one who sells begins with an offer a, one who buys with b (-20 .. 19 both);", () -> {
            GorgeRocks x = new GorgeRocks();
            all(x, ab(-20, -20), 0, 0, 1, 0, Due.NONE, -20, -20);
            all(x, ab(19, 19), 0, 0, 1, 0, Due.NONE, 19, 19);
            all(x, ab(-20, 19), 0, 0, 1, 0, Due.NONE, -20, 19);
            all(x, ab(19, -20), 0, 0, 1, Due.NONE, Due.NONE, 18, -19);
            for (int ab : new int[] {-1, 40, 99, 3940, 4000}) {
                Due.is("ab " + ab, x.bargain(ab, 0, 0, 1, 2), Due.BEYOND);
            }
        });
    }

    private void heardOffers() {
        doc.terms("what they call comes to the other one over a WAY each (as a row of one NUMBER; HEARD is the NUMBER that comes; "
                + "if none comes, or another SOUND, it is what was HEARD ahead, at first the own offer).", () -> {
            GorgeRocks x = new GorgeRocks();
            x.rock(30, 0);
            x.rock(50, 0);
            x.rock(60, 0);
            Due.text(x, 1, "h");
            all(x, ab(7, -4), 0, 0, 1, Due.NONE, Due.NONE, -4, 7);
            // The seller's WAY is the first, the buyer's the other one.
            all(x, ab(7, -9), 1, 0, 1, Due.NONE, Due.NONE, -9, -7);
            all(x, ab(7, -4), 0, 1, 1, Due.NONE, Due.NONE, 4, 7);
            all(x, ab(7, -4), 0, 111, 1, Due.NONE, Due.NONE, 4, 7);
            // SWALLOW: none comes, at first it is the own offer.
            all(x, ab(7, -4), 2, 0, 1, Due.NONE, 0, -4, -4);
            all(x, ab(7, -4), 0, 2, 1, Due.NONE, 0, 7, 7);
            all(x, ab(7, -4), 2, 2, 1, 0, Due.NONE, 7, -4);
            heardAhead(x);
        });
    }

    /** ROCK 2 is TOLD: by TURNS some NUMBERS come as they are, others as another SOUND. */
    private static void heardAhead(GorgeRocks x) {
        for (String another : new String[] {"0", "39", "44", "50", "53"}) {
            Due.text(x, 0, another);
            all(x, ab(7, -4), 3, 0, 1, Due.NONE, 0, -4, -4);
        }
        Due.text(x, 0, "54");
        // What is no SOUND comes as 60, the NUMBER -20.
        all(x, ab(7, -4), 3, 0, 1, Due.NONE, 0, -4, -20);
        // 10, 9, 8, 7, 6 come, then WORDS: the buyer has heard 6 as turn 7 ends.
        Due.text(x, 0, "s*(s>85)");
        Due.text(x, 1, "o-1+b*(1+(h-o)*(t=7))");
        all(x, ab(10, -20), 3, 0, 7, Due.NONE, Due.NONE, 3, -20);
        all(x, ab(10, -20), 3, 0, 8, Due.NONE, Due.NONE, 2, 6);
        // Nothing comes at all: it stays the first own offer, whatever the own one is by now.
        Due.text(x, 0, "0");
        Due.text(x, 1, "o-1-b*2+b*(h-o+3)*(t=3)");
        all(x, ab(19, -5), 3, 0, 3, Due.NONE, 0, 16, -14);
        all(x, ab(19, -5), 3, 0, 4, Due.NONE, 0, 15, -5);
    }

    private void turns() {
        doc.terms("TURNS 0 .. n - 1: first the seller calls, the buyer hears; then the buyer, the seller hears;", () -> {
            GorgeRocks x = new GorgeRocks();
            all(x, ab(19, -20), 0, 0, 1, Due.NONE, Due.NONE, 18, -19);
            all(x, ab(19, -20), 0, 0, 19, Due.NONE, Due.NONE, 0, -1);
            all(x, ab(19, -20), 0, 0, 20, Due.NONE, Due.NONE, -1, 0);
            all(x, ab(19, -20), 0, 0, 21, 20, Due.NONE, -1, 0);
            Due.text(x, 1, "h*(t=0)+o*(t>0)");
            // Both hear what was called in the same turn.
            all(x, ab(3, 1), 0, 0, 1, Due.NONE, Due.NONE, 1, 3);
            all(x, ab(3, 1), 0, 0, 2, 1, Due.NONE, 1, 3);
            Due.text(x, 1, "t-20*b");
            all(x, ab(19, -20), 0, 0, 1, Due.NONE, Due.NONE, 0, -20);
            all(x, ab(19, -20), 0, 0, 20, Due.NONE, Due.NONE, 19, -1);
            all(x, ab(19, -20), 0, 0, 60, 40, Due.NONE, 19, 19);
        });
    }

    private void thoughts() {
        doc.terms("the buyer thinks that it closes, if the own offer isn't less than what was HEARD; "
                + "the seller, if what was HEARD isn't less than the own offer;", () -> {
            GorgeRocks x = new GorgeRocks();
            x.rock(30, 0);
            // Over LESS the buyer hears -5, or the seller does 5; the other one never thinks so.
            all(x, ab(5, -4), 1, 0, 1, Due.NONE, 0, 4, -3);
            all(x, ab(5, -5), 1, 0, 1, Due.NONE, 0, 4, -4);
            all(x, ab(5, -6), 1, 0, 1, Due.NONE, Due.NONE, 4, -5);
            all(x, ab(4, -5), 0, 1, 1, Due.NONE, 0, 3, -4);
            all(x, ab(5, -5), 0, 1, 1, Due.NONE, 0, 4, -4);
            all(x, ab(6, -5), 0, 1, 1, Due.NONE, Due.NONE, 5, -4);
        });
    }

    private void closes() {
        doc.terms("with both it CLOSES and ends; else both have a new offer by OFFERS.", () -> {
            GorgeRocks x = new GorgeRocks();
            all(x, ab(4, 4), 0, 0, 60, 0, Due.NONE, 4, 4);
            all(x, ab(5, 4), 0, 0, 60, 1, Due.NONE, 4, 5);
            Due.text(x, 1, "19-b*39");
            all(x, ab(4, 4), 0, 0, 60, 0, Due.NONE, 4, 4);
            all(x, ab(5, 4), 0, 0, 60, Due.NONE, Due.NONE, 19, -20);
            x.rock(30, 0);
            // Where one alone thinks so, both go on.
            all(x, ab(5, -5), 1, 0, 1, Due.NONE, 0, 19, -20);
        });
        doc.terms("CLOSED: the turn, or none.", () -> {
            GorgeRocks x = new GorgeRocks();
            for (int turn = 0; turn <= 19; turn++) {
                int from = ab(turn, -turn);
                Due.is("turn " + turn, x.bargain(from, 0, 0, turn + 1, 0), turn);
                Due.is("turn " + turn, x.bargain(from, 0, 0, 60, 0), turn);
                Due.is("one TURN less", turn == 0 ? Due.NONE : x.bargain(from, 0, 0, turn, 0), Due.NONE);
            }
        });
        doc.terms("ODD: the first turn in which one thinks it closes and the other one doesn't.", () -> {
            GorgeRocks x = new GorgeRocks();
            x.rock(30, 0);
            // In turn 9 the seller's -1 is met; the buyer hears 1 then, and more and more up to -20, its own CONTRARY.
            all(x, ab(8, -10), 1, 0, 9, Due.NONE, Due.NONE, -1, -1);
            all(x, ab(8, -10), 1, 0, 10, Due.NONE, 9, -2, 0);
            all(x, ab(8, -10), 1, 0, 60, 28, 9, -20, 18);
            all(x, ab(8, -8), 1, 0, 60, 8, 0, 0, 0);
            Due.text(x, 1, "o-1+b*3");
            // The buyer hears -8, -7, -6 and has -10, -8, -6.
            all(x, ab(8, -10), 1, 0, 2, Due.NONE, Due.NONE, 6, -6);
            all(x, ab(8, -10), 1, 0, 3, Due.NONE, 2, 5, -4);
            all(x, ab(8, -10), 1, 0, 60, 6, 2, 2, 2);
        });
    }

    private void draws() {
        doc.terms("DRAWS: z is told (1 at first); each makes it z * 1103515245 + 12345 (an int), and gives z >>> 8.", () -> {
            GorgeRocks x = new GorgeRocks();
            int c = x.call();
            Due.is("1 at first", x.count(9), 1);
            x.draw(c, 1);
            Due.is("one draw", x.count(9), 1103527590);
            Due.is("1103527590 >>> 8 is 4310654", x.soundOf(c, 0), 60);
            x.draw(c, 0);
            Due.is("none", x.count(9), 1103527590);
            x.draw(c, 2);
            Due.is("two more", x.count(9), (1103527590 * 1103515245 + 12345) * 1103515245 + 12345);
            // One whose z is below 0 then: >>> gives what isn't.
            x.seed(2);
            x.draw(c, 1);
            int z = 2 * 1103515245 + 12345;
            Due.is("below 0", z < 0 ? 1 : 0, 1);
            Due.is("z", x.count(9), z);
            Due.is("the draw's rest", x.soundOf(c, 0), (z >>> 8) % 100);
        });
        doc.terms("A CALL is DRAWN: n SOUNDS, each a draw's rest by 100, 60 if that is no SOUND.", () -> {
            boolean[] seen = new boolean[100];
            for (int seed = 0; seed < 60; seed++) {
                GorgeRocks x = new GorgeRocks();
                int c = x.call();
                x.seed(seed * 7919);
                x.draw(c, 12);
                Due.is("12 SOUNDS", x.soundOf(c, -1), 12);
                int z = seed * 7919;
                for (int i = 0; i < 12; i++) {
                    z = z * 1103515245 + 12345;
                    int rest = (z >>> 8) % 100;
                    seen[rest] = true;
                    Due.is("a draw's rest", x.soundOf(c, i), rest > 53 && rest < 60 ? 60 : rest);
                }
            }
            for (int rest = 0; rest < 100; rest++) {
                Due.is("a rest of " + rest + " was drawn", seen[rest] ? 1 : 0, 1);
            }
        });
    }
}
