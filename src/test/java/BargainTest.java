/** Promises 32 and 33: bargains, the seed of draws. */
public final class BargainTest {
    public static void main(String[] args) {
        wrong();
        plain();
        held();
        heardOtherwise();
        keptFromAhead();
        offersByText();
        seeds();
        Due.end();
    }

    private static int ab(int a, int b) {
        return 100 * (a + 20) + b + 20;
    }

    private static void all(GorgeRocks x, int ab, int one, int other, int n, int... due) {
        for (int what = 0; what < 4; what++) {
            Due.is(32, "bargain(" + ab + ", " + one + ", " + other + ", " + n + ", " + what + ")",
                    x.bargain(ab, one, other, n, what), due[what]);
        }
    }

    private static void wrong() {
        GorgeRocks x = new GorgeRocks();
        for (int ab : new int[] {-1, 40, 99, 140, 3940, 4000, 4039, Integer.MAX_VALUE, Integer.MIN_VALUE}) {
            Due.is(32, "ab " + ab, x.bargain(ab, 0, 0, 1, 2), Due.BEYOND);
        }
        Due.is(32, "n 0", x.bargain(0, 0, 0, 0, 2), Due.BEYOND);
        Due.is(32, "n 61", x.bargain(0, 0, 0, 61, 2), Due.BEYOND);
        Due.is(32, "what -1", x.bargain(0, 0, 0, 1, -1), Due.BEYOND);
        Due.is(32, "what 4", x.bargain(0, 0, 0, 1, 4), Due.BEYOND);
        Due.is(32, "no WAY", x.bargain(0, 1, 0, 1, 2), Due.BEYOND);
        Due.is(32, "no other WAY", x.bargain(0, 0, 1, 1, 2), Due.BEYOND);
        Due.is(32, "told(1)", x.told(1), 15);
    }

    private static void plain() {
        GorgeRocks x = new GorgeRocks();
        all(x, ab(5, 5), 0, 0, 1, 0, Due.NONE, 5, 5);
        all(x, ab(4, 5), 0, 0, 60, 0, Due.NONE, 4, 5);
        all(x, ab(6, 5), 0, 0, 60, 1, Due.NONE, 5, 6);
        all(x, ab(10, -10), 0, 0, 10, Due.NONE, Due.NONE, 0, 0);
        all(x, ab(10, -10), 0, 0, 11, 10, Due.NONE, 0, 0);
        all(x, ab(10, -10), 0, 0, 3, Due.NONE, Due.NONE, 7, -7);
        all(x, 3939, 0, 0, 1, 0, Due.NONE, 19, 19);
        all(x, 0, 0, 0, 1, 0, Due.NONE, -20, -20);
    }

    private static void held() {
        GorgeRocks x = new GorgeRocks();
        // TOLD turns each offer of the buyer into -20: the seller never thinks that it closes.
        x.rock(60, 0);
        Due.text(x, 0, "60");
        all(x, ab(19, 19), 0, 1, 60, 39, 0, -20, 19);
        Due.text(x, 1, "o*100");
        all(x, ab(19, -20), 0, 0, 5, Due.NONE, Due.NONE, 19, -20);
        Due.text(x, 1, "o-9000*9000*9");
        all(x, ab(19, -20), 0, 0, 1, Due.NONE, Due.NONE, -20, -20);
    }

    private static void heardOtherwise() {
        GorgeRocks x = new GorgeRocks();
        x.rock(30, 0);
        x.rock(60, 0);
        // The seller's 5 comes as -5 over LESS; what the buyer calls comes as it is.
        all(x, ab(5, -3), 1, 0, 1, Due.NONE, 0, 4, -2);
        all(x, ab(5, -3), 0, 1, 1, Due.NONE, Due.NONE, 4, -2);
        // Two over LESS: the buyer hears -5, the seller 3; it closes as the buyer is held at 19.
        all(x, ab(5, -3), 1, 1, 60, 24, 0, -19, 19);
        all(x, ab(5, -3), 1, 1, 24, Due.NONE, 0, -19, 19);
        // A seller's NUMBER that is told as 3 more: 1 is HEARD as 4.
        Due.text(x, 0, "s+3");
        all(x, ab(1, 1), 2, 0, 60, 2, 0, -1, 3);
        all(x, ab(1, 1), 0, 2, 60, 0, Due.NONE, 1, 1);
    }

    private static void keptFromAhead() {
        GorgeRocks x = new GorgeRocks();
        x.rock(50, 0);
        x.rock(60, 0);
        // None comes to the buyer, so it is the own offer at first: the buyer thinks that it closes.
        all(x, ab(3, 0), 1, 0, 1, Due.NONE, 0, 2, 1);
        // It stays the first own offer: later, lower offers of the buyer are below it.
        Due.text(x, 1, "o-1");
        all(x, ab(3, 0), 1, 0, 4, Due.NONE, 0, -1, -4);
        // What was HEARD ahead: turn 0 brings the NUMBER 2, then come WORDS (as no NUMBER).
        x.untell(1);
        Due.text(x, 0, "s*(s=82)");
        // The buyer hears 2, 2, 2, the seller 0, 1, 2: in turn 2 the buyer's own offer is 2.
        all(x, ab(2, 0), 2, 0, 1, Due.NONE, Due.NONE, 1, 1);
        all(x, ab(2, 0), 2, 0, 2, Due.NONE, 1, 0, 2);
        all(x, ab(2, 0), 2, 0, 3, 2, 1, 0, 2);
    }

    private static void offersByText() {
        GorgeRocks x = new GorgeRocks();
        Due.text(x, 1, "h");
        all(x, ab(7, -4), 0, 0, 1, Due.NONE, Due.NONE, -4, 7);
        all(x, ab(7, -4), 0, 0, 60, 1, Due.NONE, -4, 7);
        Due.text(x, 1, "b*5-t");
        all(x, ab(7, -4), 0, 0, 1, Due.NONE, Due.NONE, 0, 5);
        Due.text(x, 1, "10-b*15+t");
        all(x, ab(7, -4), 0, 0, 1, Due.NONE, Due.NONE, 10, -5);
        all(x, ab(7, -4), 0, 0, 2, Due.NONE, Due.NONE, 11, -4);
        all(x, ab(7, -4), 0, 0, 60, 25, Due.NONE, 19, 19);
    }

    private static void seeds() {
        GorgeRocks x = new GorgeRocks();
        Due.is(33, "seed", x.seed(-1000001), 1);
        Due.is(33, "what it was", x.seed(Integer.MIN_VALUE), -1000001);
        Due.is(33, "count(9)", x.count(9), Integer.MIN_VALUE);
        Due.is(33, "that was no ERROR", x.told(1), 0);
        int c = x.call();
        x.seed(1);
        x.draw(c, 3);
        int first = x.soundOf(c, 2);
        int z = x.seed(1);
        x.draw(c, 3);
        Due.is(33, "the same draws", x.soundOf(c, 2), first);
        Due.is(33, "the same z", x.count(9), z);
    }
}
