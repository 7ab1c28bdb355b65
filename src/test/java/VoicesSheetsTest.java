/** Promises 34 to 45: VOICES, SHEETS, IMAGES, what is told. */
public final class VoicesSheetsTest {
    public static void main(String[] args) {
        voices();
        wrapping();
        parted();
        sheets();
        moves();
        sounds();
        images();
        waiting();
        counts();
        told();
        Due.end();
    }

    private static void voice(int kind, int voice, int x, int due, int... trace) {
        GorgeRocks g = new GorgeRocks();
        g.rock(0, 0);
        g.rock(0, 0);
        g.rock(10 * kind + 5, 0);
        Due.is(34, "voice " + voice + " of KIND " + kind, g.voice(2, voice, x), due);
        Due.is(44, "BODIES", g.count(8), trace.length);
        for (int i = 0; i < trace.length; i++) {
            Due.is(35, "BODY " + i + " of voice " + voice + " of KIND " + kind, g.body(i), trace[i]);
        }
        Due.is(35, "behind THE TRACE", g.body(trace.length), Due.NONE);
        Due.is(35, "ahead of it", g.body(-1), Due.NONE);
    }

    /** k is 2, m 5. */
    private static void voices() {
        voice(0, 0, 7, 9, 10);
        voice(0, 1, 7, 18, 11, 10);
        voice(0, 2, 7, 13, 12, 11, 10);
        voice(0, 3, 7, 2, 13);
        voice(0, 3, -7, -2, 13);
        voice(1, 0, 7, 4, 20, 10);
        voice(1, 1, 7, 8, 11, 20, 10);
        voice(1, 2, 7, 3, 12, 11, 20, 10);
        voice(1, 3, 7, 2 - 4, 21, 13, 11, 20, 10);
        voice(2, 0, 7, 4, 20, 10);
        voice(2, 1, 7, -8, 30, 11, 20, 10);
        voice(2, 2, 7, -13, 12, 30, 11, 20, 10);
        voice(2, 3, 7, 2 + 4, 21, 13, 30, 11, 20, 10);
        voice(3, 0, 7, 9, 10);
        voice(3, 1, 7, 18, 11, 10);
        voice(3, 2, 7, 5, 40, 12, 11, 10);
        voice(3, 2, -7, -7, 40, 12, 11, 10);
        voice(3, 3, 7, 2, 13);
        voice(4, 0, 7, 27, 50, 10);
        voice(4, 1, 7, 54, 11, 50, 10);
        voice(4, 2, 7, 49 ^ 2, 51, 12, 11, 50, 10);
        voice(4, 3, 7, 2, 13);
        voice(5, 0, 7, 27, 50, 10);
        voice(5, 1, 7, 60, 60, 11, 50, 10);
        voice(5, 2, 7, 55 ^ 2, 51, 12, 60, 11, 50, 10);
        voice(5, 3, 7, 2, 13);
        voice(6, 0, 7, 9, 70);
        voice(6, 1, 7, 18, 11, 70);
        voice(6, 2, 7, 13, 12, 11, 70);
        voice(6, 3, 7, 2 + 18 - 13, 71, 21, 13, 11, 70, 12, 11, 70);
    }

    private static void wrapping() {
        GorgeRocks g = new GorgeRocks();
        g.rock(0, 0);
        g.rock(0, 0);
        Due.is(34, "turns wraps", g.voice(1, 0, Integer.MAX_VALUE), Integer.MIN_VALUE);
        Due.is(34, "sends wraps", g.voice(1, 1, Integer.MAX_VALUE), 0);
        Due.is(34, "waits by -1", g.voice(1, 3, Integer.MIN_VALUE), Integer.MIN_VALUE);
        Due.is(34, "an answer that looks like an ERROR", g.voice(0, 0, Due.BEYOND), Due.BEYOND);
        Due.is(34, "is none", g.told(1), 0);
        Due.is(34, "voice 4", g.voice(0, 4, 0), Due.BEYOND);
        Due.is(34, "voice -1", g.voice(0, -1, 0), Due.BEYOND);
        Due.is(34, "no ROCK", g.voice(2, 0, 0), Due.BEYOND);
        Due.is(34, "ROCK -1", g.voice(-1, 0, 0), Due.BEYOND);
        Due.is(35, "THE TRACE stays", g.body(0), 10);
        Due.is(35, "one BODY", g.count(8), 1);
    }

    private static void parted() {
        GorgeRocks g = new GorgeRocks();
        g.rock(0, 0);
        g.rock(61, 0);
        Due.is(34, "PARTED", g.voice(0, 3, 9), Due.PARTED);
        Due.is(35, "13", g.body(0), 13);
        Due.is(34, "PARTED far down", g.voice(1, 3, 9), Due.PARTED);
        Due.is(35, "71", g.body(0), 71);
        Due.is(35, "21", g.body(1), 21);
        Due.is(35, "13", g.body(2), 13);
        Due.is(35, "no BODY began then", g.body(3), Due.NONE);
        Due.is(45, "told(6)", g.told(6), 2);
        Due.is(34, "it goes on", g.voice(1, 0, 9), 9);
        Due.is(34, "m - k 1", g.set(1, 1, 2), 1);
        Due.is(34, "waits", g.voice(1, 3, 9), 9 + 18 - 16);
    }

    private static void sheets() {
        GorgeRocks x = new GorgeRocks();
        Due.is(36, "SHEET 4", x.sheet(4, 8, 1), Due.BEYOND);
        Due.is(36, "SHEET -1", x.sheet(-1, 8, 1), Due.BEYOND);
        Due.is(36, "7 bits", x.sheet(0, 7, 1), Due.BEYOND);
        Due.is(36, "64 bits", x.sheet(0, 64, 1), Due.BEYOND);
        Due.is(36, "7 bits, n below 0", x.sheet(0, 7, -1), Due.BEYOND);
        Due.is(36, "n below 0", x.sheet(0, 8, -1), Due.STATE);
        Due.is(36, "n 25", x.sheet(0, 8, 25), Due.BEYOND);
        Due.is(36, "missing, n -1", x.sheet(0, 0, -1), 1);
        Due.is(36, "missing, n 25", x.sheet(0, 0, 25), 1);
        Due.is(37, "put to one that is missing", x.put(0, 0, 1), Due.NONE);
        Due.is(36, "n 24", x.sheet(0, 8, 24), 1);
        Due.is(37, "put 23", x.put(0, 23, 1), 1);
        Due.is(37, "put 24", x.put(0, 24, 1), Due.BEYOND);
        Due.is(37, "put -1", x.put(0, -1, 1), Due.BEYOND);
        Due.is(37, "SHEET 4", x.put(4, 0, 1), Due.BEYOND);
        Due.is(36, "n 0", x.sheet(0, 32, 0), 1);
        Due.is(37, "put to none", x.put(0, 0, 1), Due.BEYOND);
        lowestBits(x);
    }

    private static void lowestBits(GorgeRocks x) {
        int c = x.call();
        int[] bits = {8, 16, 32};
        for (int i = 0; i < 3; i++) {
            x.sheet(i, bits[i], 3);
            x.put(i, 0, 7 + 256);
            x.put(i, 1, 8 + 65536);
            x.put(i, 2, 9);
        }
        Due.is(37, "8 bits", x.sounds(0, c), 3);
        Due.row(37, x, c, 7, 8, 9);
        Due.is(37, "16 bits", x.sounds(1, c), 0);
        x.put(1, 0, 7);
        Due.is(37, "16 bits", x.sounds(1, c), 3);
        Due.row(37, x, c, 7, 8, 9);
        x.put(2, 0, 7);
        Due.is(37, "32 bits", x.sounds(2, c), 1);
        Due.row(37, x, c, 7);
        Due.is(36, "anew", x.sheet(0, 8, 4), 1);
        Due.is(36, "all 0", x.sounds(0, c), 4);
        Due.row(36, x, c, 0, 0, 0, 0);
    }

    private static void numbers(int promise, GorgeRocks x, int sheet, int... due) {
        int c = x.count(0) == 0 ? x.call() : 0;
        Due.is(promise, "numbers of SHEET " + sheet, x.sounds(sheet, c), due.length);
        Due.row(promise, x, c, due);
    }

    private static void fill(GorgeRocks x, int sheet, int from) {
        for (int i = 0; i < 5; i++) {
            x.put(sheet, i, from + i);
        }
    }

    private static void moves() {
        GorgeRocks x = new GorgeRocks();
        Due.is(38, "SHEET 4", x.move(4, 0, 0, 0, 0), Due.BEYOND);
        Due.is(38, "other SHEET 4", x.move(0, 0, 4, 0, 0), Due.BEYOND);
        Due.is(38, "missing", x.move(0, -1, 1, 0, 0), Due.NONE);
        x.sheet(0, 8, 5);
        Due.is(38, "the other one missing", x.move(0, 0, 1, 0, 0), Due.NONE);
        Due.is(38, "the first one missing", x.move(1, 0, 0, 0, 0), Due.NONE);
        x.sheet(1, 8, 5);
        x.sheet(2, 16, 5);
        Due.is(38, "unlike bits", x.move(0, 0, 2, 0, 1), Due.KIND);
        Due.is(38, "unlike bits ahead of BEYOND", x.move(0, -1, 2, 0, 1), Due.KIND);
        fill(x, 0, 1);
        fill(x, 1, 11);
        int far = Integer.MAX_VALUE;
        int[][] wrong = {{-1, 0, 1}, {0, -1, 1}, {0, 0, -1}, {5, 0, 1}, {0, 5, 1}, {3, 0, 3}, {0, 3, 3}, {0, 0, 6},
            {6, 0, 0}, {0, 6, 0}, {far, 0, far}, {0, far, far}, {1, 1, far}, {far, 0, 1}};
        for (int[] w : wrong) {
            Due.is(38, "move(0, " + w[0] + ", 1, " + w[1] + ", " + w[2] + ")", x.move(0, w[0], 1, w[1], w[2]), Due.BEYOND);
        }
        numbers(38, x, 1, 11, 12, 13, 14, 15);
        Due.is(38, "none", x.move(0, 5, 1, 5, 0), 0);
        Due.is(38, "to another one", x.move(0, 1, 1, 3, 2), 2);
        numbers(38, x, 1, 11, 12, 13, 2, 3);
        numbers(38, x, 0, 1, 2, 3, 4, 5);
        Due.is(38, "forward in the same", x.move(0, 0, 0, 1, 4), 4);
        numbers(38, x, 0, 1, 1, 2, 3, 4);
        Due.is(38, "backward in the same", x.move(0, 1, 0, 0, 4), 4);
        numbers(38, x, 0, 1, 2, 3, 4, 4);
    }

    private static void sounds() {
        GorgeRocks x = new GorgeRocks();
        int c = Due.call(x, 5, 6);
        Due.is(39, "SHEET 4", x.sounds(4, c), Due.BEYOND);
        Due.is(39, "no CALL", x.sounds(0, 1), Due.BEYOND);
        Due.is(39, "no CALL, and missing", x.sounds(0, -1), Due.BEYOND);
        Due.is(39, "missing", x.sounds(0, c), Due.NONE);
        Due.row(39, x, c, 5, 6);
        x.sheet(0, 32, 24);
        Due.is(39, "the first 12", x.sounds(0, c), 12);
        x.put(0, 2, 54);
        Due.is(39, "up to one that is none", x.sounds(0, c), 2);
        x.put(0, 0, -1);
        Due.is(39, "none came", x.sounds(0, c), 0);
        Due.row(39, x, c);
        x.sheet(1, 8, 0);
        x.sound(c, 1);
        Due.is(39, "of no numbers", x.sounds(1, c), 0);
        Due.row(39, x, c);
    }

    private static void images() {
        GorgeRocks x = new GorgeRocks();
        int c = Due.call(x, 1, 2);
        x.rock(13, 4);
        x.rock(60, 0);
        x.feed('7', 1);
        x.text(0);
        x.feed('o', 1);
        x.text(1);
        x.feed('s', 1);
        x.so(5);
        x.seed(99);
        x.tell(1);
        x.seconds(3);
        x.shout(c, 0);
        x.shout(c, 1);
        x.sheet(0, 8, 2);
        x.voice(0, 0, 0);
        Due.is(40, "image", x.image(), 1);
        spoil(x, c);
        Due.is(41, "restore", x.restore(), 3);
        restored(x, c);
        spoil(x, c);
        Due.is(41, "restore again", x.restore(), 3);
        restored(x, c);
        Due.is(40, "image again", x.image(), 2);
        x.hush(c);
        Due.is(40, "in place of one ahead", x.image(), 3);
        x.sound(c, 9);
        x.restore();
        Due.row(41, x, c);
        Due.is(41, "told() stays", x.told(1), 4);
        Due.is(41, "ERRORS of NONE", x.told(2), 2);
    }

    private static void spoil(GorgeRocks x, int c) {
        x.call();
        Due.say(x, c, 30, 31, 32);
        x.set(0, 0, 4);
        x.set(0, 1, 0);
        x.set(0, 2, 9);
        x.rock(0, 0);
        x.text(0);
        x.untell(1);
        x.feed('m', 1);
        x.feed('m', 1);
        x.so(1);
        x.seed(3);
        x.tell(2);
        x.seconds(10);
        x.shout(c, 2);
        x.shout(c, 0);
        x.sheet(1, 16, 1);
        x.voice(0, 1, 0);
        x.told(9);
    }

    private static void restored(GorgeRocks x, int c) {
        int[] counts = {1, 2, 3, 1, 1, 5, 1, 1};
        for (int what = 0; what < counts.length; what++) {
            Due.is(41, "count(" + what + ")", x.count(what), counts[what]);
        }
        Due.is(41, "z", x.count(9), 99);
        Due.is(41, "THE TRACE stays", x.count(8), 3);
        Due.row(41, x, c, 1, 2);
        Due.is(41, "KIND", x.rockIs(0, 0), 1);
        Due.is(41, "m", x.rockIs(0, 1), 3);
        Due.is(41, "DELAY", x.rockIs(0, 2), 4);
        Due.heard(41, x, c, 2, 7, 7);
        Due.is(41, "SHEETS stay", x.put(1, 0, 0), 1);
        Due.logged(41, x, 0, 7, 7);
        Due.is(41, "no row more", x.log(1, 0), Due.NONE);
        Due.is(41, "OFFERS: o", x.bargain(3010, 0, 0, 60, 2), 10);
        x.seconds(4);
        Due.logged(41, x, 0, 0, 3);
    }

    private static void waiting() {
        GorgeRocks x = new GorgeRocks();
        int c = Due.call(x, 1, 2, 3);
        x.rock(10, 0);
        for (int i = 1; i <= 24; i++) {
            Due.is(42, "tell", x.tell(i), i);
        }
        Due.is(42, "the 25th", x.tell(1), Due.FULL);
        Due.is(43, "too many", x.check(c, 0), 4);
        Due.is(43, "none wait then", x.count(7), 0);
        Due.is(43, "all lack", x.check(c, 0), 1);
        x.tell(1);
        x.tell(2);
        Due.is(43, "one lacks", x.check(c, 0), 3);
        x.tell(0);
        x.tell(3);
        x.tell(2);
        Due.is(43, "over NAY", x.check(c, 1), 0);
        x.tell(1);
        x.tell(-5);
        x.tell(3);
        Due.is(43, "the middle", x.check(c, 0), 2);
        x.tell(1);
        Due.is(43, "no CALL", x.check(1, 0), Due.BEYOND);
        Due.is(43, "none wait then, too", x.count(7), 0);
        x.tell(1);
        Due.is(43, "no WAY", x.check(c, 2), Due.BEYOND);
        Due.is(43, "none wait then, too", x.count(7), 0);
        x.hush(c);
        Due.is(43, "none of none", x.check(c, 0), 0);
    }

    private static void counts() {
        GorgeRocks x = new GorgeRocks();
        int c = Due.call(x, 1);
        x.call();
        x.rock(0, 3);
        x.rock(0, 0);
        x.rock(10, 9);
        x.seconds(4);
        x.shout(c, 0);
        x.shout(c, 2);
        x.shout(c, 0);
        x.shout(c, 1);
        x.shout(c, 1);
        x.so(9);
        x.feed(0, 6);
        x.tell(5);
        x.voice(0, 2, 1);
        x.seed(-7);
        int[] due = {2, 3, 4, 3, 2, 9, 6, 1, 3, -7};
        for (int what = 0; what < 10; what++) {
            Due.is(44, "count(" + what + ")", x.count(what), due[what]);
        }
        Due.is(44, "count(10)", x.count(10), Due.BEYOND);
        Due.is(44, "count(-1)", x.count(-1), Due.BEYOND);
    }

    private static void told() {
        GorgeRocks x = new GorgeRocks();
        for (int k = 1; k <= 6; k++) {
            Due.is(45, "told(" + k + ")", x.told(k), 0);
        }
        Due.is(45, "told(0)", x.told(0), Due.BEYOND);
        Due.is(45, "told(7)", x.told(7), Due.BEYOND);
        Due.is(45, "told(-1)", x.told(-1), Due.BEYOND);
        Due.is(45, "counted, too", x.told(1), 3);
        x.restore();
        x.sheet(0, 8, -1);
        x.sheet(0, 8, -1);
        x.rock(0, 0);
        x.as(0, 1);
        x.as(0, 2);
        x.as(0, 3);
        x.voice(0, 3, 1);
        for (int i = 0; i < 8; i++) {
            x.feed(0, 8);
        }
        int[] due = {0, 3, 1, 2, 1, 3, 1};
        for (int k = 1; k <= 6; k++) {
            Due.is(45, "told(" + k + ")", x.told(k), due[k]);
        }
        x.image();
        x.restore();
        Due.is(45, "it stays", x.told(5), 3);
    }
}
