/** Promises 26 to 28: what a CALL says. */
public final class SaysTest {
    private static final int AND = 50;
    private static final int OR = 51;
    private static final int IF = 52;
    private static final int NOT = 53;

    public static void main(String[] args) {
        faults();
        sets();
        words();
        joined();
        overWays();
        Due.end();
    }

    private static void fault(int place, int... row) {
        GorgeRocks x = new GorgeRocks();
        int c = Due.call(x, row);
        Due.is(26, "reads of " + java.util.Arrays.toString(row), x.reads(c), place < 0 ? 1 : -10 - place);
        Due.is(26, "no ERROR", x.told(1) + x.told(2), 0);
        Due.is(28, "says of " + java.util.Arrays.toString(row), x.says(c, 0) < 0 ? 1 : 0, place < 0 ? 0 : 1);
    }

    private static void faults() {
        fault(0);
        fault(-1, 0);
        fault(-1, 49);
        fault(-1, 5, 60, 99, 80);
        fault(0, 60);
        fault(0, AND);
        fault(0, OR, 1);
        fault(1, 1, 2);
        fault(2, 1, AND);
        fault(2, 1, AND, 80);
        fault(2, 1, AND, OR);
        fault(1, 1, NOT, 2);
        fault(1, 1, IF, 2, 3);
        fault(1, NOT);
        fault(1, NOT, 80);
        fault(1, NOT, AND);
        fault(-1, NOT, NOT, NOT, 3, 80);
        fault(1, IF);
        fault(2, IF, 1);
        fault(2, IF, 1, AND, 2);
        fault(-1, IF, 1, 2);
        fault(-1, IF, 1, 80, 81, 2, 82);
        fault(3, IF, 1, 2, 3);
        fault(-1, IF, 1, 2, OR, 3, AND, NOT, IF, 4, 5);
        fault(-1, IF, IF, 1, 2, IF, 3, NOT, 4);
        fault(5, IF, IF, 1, 2, 80);
        fault(12, NOT, NOT, NOT, NOT, NOT, NOT, NOT, NOT, NOT, NOT, NOT, NOT);
        fault(12, IF, IF, IF, IF, IF, IF, IF, IF, IF, IF, IF, IF);
        fault(-1, NOT, NOT, NOT, NOT, NOT, NOT, NOT, NOT, NOT, NOT, NOT, 1);
        fault(-1, IF, IF, IF, IF, IF, 1, 2, 3, 4, 5, 6);
        GorgeRocks x = new GorgeRocks();
        Due.is(26, "no CALL", x.reads(0), Due.BEYOND);
        Due.is(26, "CALL -1", x.reads(-1), Due.BEYOND);
    }

    private static void sets() {
        GorgeRocks x = new GorgeRocks();
        Due.is(27, "so", x.so(1048575), 0);
        Due.is(27, "so", x.so(0), 1048575);
        Due.is(27, "so", x.so(77), 0);
        Due.is(27, "too much", x.so(1048576), Due.BEYOND);
        Due.is(27, "below 0", x.so(-1), Due.BEYOND);
        Due.is(27, "it stays", x.count(5), 77);
    }

    private static int says(int set, int... row) {
        GorgeRocks x = new GorgeRocks();
        x.so(set);
        return x.says(Due.call(x, row), 0);
    }

    private static void words() {
        for (int word = 0; word < 40; word++) {
            int bit = 1 << (word / 2);
            Due.is(28, "WORD " + word + " alone so", says(bit, word), word % 2 == 0 ? 1 : 0);
            Due.is(28, "WORD " + word + " alone not", says(1048575 ^ bit, word), word % 2);
        }
        Due.is(28, "a PLAIN WORD", says(0, 40), 1);
        Due.is(28, "sum 0", says(0, 40, 75, 85), 1);
        Due.is(28, "sum -1", says(0, 40, 75, 84), 0);
        Due.is(28, "sum 1, behind one below 0", says(0, 40, 60, 99, 82), 1);
        Due.is(28, "sum 5, but not so", says(0, 2, 85), 0);
        Due.is(28, "sum -20, and so", says(2, 2, 60), 0);
    }

    private static void joined() {
        int t = 40;
        int f = 0;
        int[] word = {f, t};
        for (int a = 0; a < 2; a++) {
            Due.is(28, "NOT", says(0, NOT, word[a]), 1 - a);
            Due.is(28, "NOT NOT", says(0, NOT, NOT, word[a]), a);
            for (int b = 0; b < 2; b++) {
                Due.is(28, "AND", says(0, word[a], AND, word[b]), a & b);
                Due.is(28, "OR", says(0, word[a], OR, word[b]), a | b);
                Due.is(28, "IF", says(0, IF, word[a], word[b]), 1 - a | b);
                Due.is(28, "NOT IF", says(0, NOT, IF, word[a], word[b]), a & 1 - b);
                for (int c = 0; c < 2; c++) {
                    Due.is(28, "a OR b AND c", says(0, word[a], OR, word[b], AND, word[c]), a | b & c);
                    Due.is(28, "a AND b OR c", says(0, word[a], AND, word[b], OR, word[c]), a & b | c);
                    Due.is(28, "IF a b AND c", says(0, IF, word[a], word[b], AND, word[c]), (1 - a | b) & c);
                    Due.is(28, "NOT a AND b OR NOT c", says(0, NOT, word[a], AND, word[b], OR, NOT, word[c]),
                            1 - a & b | 1 - c);
                }
            }
        }
    }

    private static void overWays() {
        GorgeRocks x = new GorgeRocks();
        int c = Due.call(x, 40, AND, 0);
        x.rock(10, 0);
        x.rock(51, 0);
        Due.is(28, "as called", x.says(c, 0), 0);
        Due.is(28, "NAY: OR, contrary", x.says(c, 1), 1);
        Due.is(28, "SWALLOW: two WORDS", x.says(c, 2), Due.NONE);
        Due.is(28, "no WAY", x.says(c, 3), Due.BEYOND);
        Due.is(28, "no CALL", x.says(1, 0), Due.BEYOND);
        Due.is(28, "told(2)", x.told(2), 1);
    }
}
