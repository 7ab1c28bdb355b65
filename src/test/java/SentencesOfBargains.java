/** Promises 32 and 33, sentence by sentence. */
final class SentencesOfBargains {
    private final Doc doc;
    private final Refusals refusals;

    SentencesOfBargains(Doc doc, Refusals refusals) {
        this.doc = doc;
        this.refusals = refusals;
    }

    void all() {
        bargains();
        seeds();
    }

    static int ab(int a, int b) {
        return 100 * (a + 20) + b + 20;
    }

    /** What 0 to 3 of a BARGAIN. */
    static void all(GorgeRocks x, int ab, int one, int other, int n, int... due) {
        for (int what = 0; what < 4; what++) {
            Due.is("bargain(" + ab + ", " + one + ", " + other + ", " + n + ", " + what + ")",
                    x.bargain(ab, one, other, n, what), due[what]);
        }
    }

    private void bargains() {
        doc.promise(32, "A BARGAIN of at most n (1 .. 60) TURNS (ab: 100 times a and 20, and b and 20): what 0 CLOSED, 1 ODD, "
                + "2 the seller's offer at last, 3 the buyer's (as it closes, or behind all TURNS the new ones).", () -> {
            GorgeRocks x = new GorgeRocks();
            all(x, ab(6, 5), 0, 0, 1, Due.NONE, Due.NONE, 5, 6);
            all(x, ab(6, 5), 0, 0, 2, 1, Due.NONE, 5, 6);
            all(x, ab(6, 5), 0, 0, 60, 1, Due.NONE, 5, 6);
            all(x, ab(4, 5), 0, 0, 60, 0, Due.NONE, 4, 5);
            // The seller comes down in turn 58 alone: it closes in the last of 60 TURNS.
            Due.text(x, 1, "o-(t=58)*(1-b)*39");
            all(x, ab(19, -20), 0, 0, 58, Due.NONE, Due.NONE, 19, -20);
            all(x, ab(19, -20), 0, 0, 59, Due.NONE, Due.NONE, -20, -20);
            all(x, ab(19, -20), 0, 0, 60, 59, Due.NONE, -20, -20);
            Due.text(x, 1, "o-(t=59)*(1-b)*39");
            all(x, ab(19, -20), 0, 0, 60, Due.NONE, Due.NONE, -20, -20);
        });
        doc.promise(32, "BEYOND: also ab (0 .. 3939, both 0 .. 39).", () -> {
            refusals.of(32, Due.BEYOND);
            GorgeRocks x = new GorgeRocks();
            Due.is("the least", x.bargain(0, 0, 0, 1, 2), -20);
            Due.is("b 39", x.bargain(39, 0, 0, 1, 3), 19);
            Due.is("a 39", x.bargain(3900, 0, 0, 1, 2), 18);
            Due.is("the greatest", x.bargain(3939, 0, 0, 1, 3), 19);
        });
        doc.promise(32, "NONE: 0, 1 alone, if there is none.", () -> {
            refusals.of(32, Due.NONE);
            GorgeRocks x = new GorgeRocks();
            Due.is("the seller's", x.bargain(ab(19, -20), 0, 0, 1, 2), 18);
            Due.is("the buyer's", x.bargain(ab(19, -20), 0, 0, 1, 3), -19);
            Due.is("they are no ERRORS", x.told(2), 0);
        });
    }

    private void seeds() {
        doc.promise(33, "z becomes v: what it was (any number).", () -> {
            GorgeRocks x = new GorgeRocks();
            int was = 1;
            for (int v : new int[] {0, -1, Integer.MIN_VALUE, Integer.MAX_VALUE, -1000001, -1000006, 5}) {
                Due.is("seed(" + v + ")", x.seed(v), was);
                Due.is("z", x.count(9), v);
                was = v;
            }
            for (int k = 1; k <= 6; k++) {
                Due.is("no ERROR", x.told(k), 0);
            }
            int c = x.call();
            x.draw(c, 1);
            Due.is("it is drawn from", x.count(9), 5 * 1103515245 + 12345);
        });
    }
}
