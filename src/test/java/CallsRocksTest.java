/** Promises 1 to 11: a new object, CALLS, CONTRARIES, ROCKS. */
public final class CallsRocksTest {
    public static void main(String[] args) {
        newObject();
        calls();
        sounds();
        draws();
        contraries();
        rocks();
        kinds();
        settings();
        Due.end();
    }

    private static void newObject() {
        GorgeRocks x = new GorgeRocks();
        for (int what = 0; what <= 8; what++) {
            Due.is(1, "count(" + what + ")", x.count(what), 0);
        }
        Due.is(1, "z", x.count(9), 1);
        Due.is(1, "soundOf(0, -1)", x.soundOf(0, -1), Due.BEYOND);
        Due.is(1, "rockIs(0, 0)", x.rockIs(0, 0), Due.BEYOND);
        Due.is(1, "no LOG", x.log(0, -1), Due.NONE);
        Due.is(1, "no TEXT 0", x.untell(0), 0);
        Due.is(1, "no TEXT 1", x.untell(1), 0);
        Due.is(1, "no IMAGE", x.restore(), Due.NONE);
        Due.is(1, "no SHEET", x.put(3, 0, 0), Due.NONE);
        Due.is(1, "no TRACE", x.body(0), Due.NONE);
        Due.is(1, "told(1)", x.told(1), 2);
        Due.is(1, "told(2)", x.told(2), 4);
    }

    private static void calls() {
        GorgeRocks x = new GorgeRocks();
        for (int i = 0; i < 12; i++) {
            Due.is(2, "call()", x.call(), i);
            Due.is(2, "it is empty", x.soundOf(i, -1), 0);
        }
        Due.is(2, "call() 13", x.call(), Due.FULL);
        Due.is(2, "count(0)", x.count(0), 12);
        Due.is(2, "told(4)", x.told(4), 1);
        GorgeRocks y = new GorgeRocks();
        y.image();
        Due.call(y, 1, 2);
        y.restore();
        Due.is(2, "call() behind restore()", y.call(), 0);
        Due.is(2, "it is empty, too", y.soundOf(0, -1), 0);
    }

    private static void sounds() {
        GorgeRocks x = new GorgeRocks();
        int c = x.call();
        int n = 0;
        for (int sound : new int[] {0, 39, 40, 49, 50, 51, 52, 53, 60, 80, 99}) {
            n++;
            Due.is(3, "sound(" + sound + ")", x.sound(c, sound), n);
        }
        for (int sound : new int[] {-1, 54, 59, 100, 1000, Integer.MIN_VALUE, Integer.MAX_VALUE}) {
            Due.is(3, "sound(" + sound + ")", x.sound(c, sound), Due.BEYOND);
        }
        Due.is(3, "sound of no CALL", x.sound(1, 0), Due.BEYOND);
        Due.is(3, "sound of CALL -1", x.sound(-1, 0), Due.BEYOND);
        Due.is(3, "the 12th", x.sound(c, 7), 12);
        Due.is(3, "the 13th", x.sound(c, 7), Due.FULL);
        Due.is(3, "the 13th, no SOUND", x.sound(c, 54), Due.BEYOND);
        Due.row(4, x, c, 0, 39, 40, 49, 50, 51, 52, 53, 60, 80, 99, 7);
        Due.is(4, "soundOf 12", x.soundOf(c, 12), Due.BEYOND);
        Due.is(4, "soundOf -2", x.soundOf(c, -2), Due.BEYOND);
        Due.is(4, "soundOf no CALL", x.soundOf(1, -1), Due.BEYOND);
        Due.is(5, "hush", x.hush(c), 12);
        Due.is(5, "hush again", x.hush(c), 0);
        Due.row(5, x, c);
        Due.is(5, "hush of no CALL", x.hush(1), Due.BEYOND);
        Due.is(5, "hush of CALL -1", x.hush(-1), Due.BEYOND);
    }

    private static void draws() {
        GorgeRocks x = new GorgeRocks();
        int c = Due.call(x, 1, 2, 3);
        int z = 1;
        int[] row = new int[12];
        int own = 0;
        for (int i = 0; i < 12; i++) {
            z = z * 1103515245 + 12345;
            int rest = (z >>> 8) % 100;
            row[i] = rest >= 54 && rest <= 59 ? 60 : rest;
            own += row[i] >= 40 && row[i] != 50 && row[i] != 51 && (row[i] <= 60 || row[i] == 80) ? 1 : 0;
        }
        Due.is(6, "draw(12)", x.draw(c, 12), own);
        Due.row(6, x, c, row);
        Due.is(6, "z", x.count(9), z);
        Due.is(6, "draw(13)", x.draw(c, 13), Due.BEYOND);
        Due.is(6, "draw(-1)", x.draw(c, -1), Due.BEYOND);
        Due.is(6, "draw of no CALL", x.draw(1, 1), Due.BEYOND);
        Due.is(6, "z stays", x.count(9), z);
        Due.is(6, "the row stays", x.soundOf(c, -1), 12);
        Due.is(6, "draw(0)", x.draw(c, 0), 0);
        Due.row(6, x, c);
        drawnGap(x, c);
    }

    /** A rest of 54 .. 59 is drawn as 60. */
    private static void drawnGap(GorgeRocks x, int c) {
        int seen = 0;
        for (int v = 0; v < 100 && seen < 3; v++) {
            int rest = ((v * 1103515245 + 12345) >>> 8) % 100;
            if (rest >= 54 && rest <= 59) {
                seen++;
                x.seed(v);
                Due.is(6, "a drawn 60", x.draw(c, 1), 1);
                Due.row(6, x, c, 60);
            }
        }
        Due.is(6, "draws of no SOUND were seen", seen, 3);
    }

    private static void contraries() {
        GorgeRocks x = new GorgeRocks();
        for (int s = 0; s < 40; s++) {
            Due.is(7, "contrary(" + s + ")", x.contrary(s), s % 2 == 0 ? s + 1 : s - 1);
        }
        for (int s = 40; s < 50; s++) {
            Due.is(7, "contrary(" + s + ")", x.contrary(s), s);
        }
        int[] joins = {51, 50, 52, 53};
        for (int s = 50; s < 54; s++) {
            Due.is(7, "contrary(" + s + ")", x.contrary(s), joins[s - 50]);
        }
        for (int s = 54; s < 60; s++) {
            Due.is(7, "contrary(" + s + ")", x.contrary(s), Due.BEYOND);
        }
        Due.is(7, "contrary(60)", x.contrary(60), 60);
        for (int s = 61; s < 100; s++) {
            Due.is(7, "contrary(" + s + ")", x.contrary(s), 160 - s);
        }
        Due.is(7, "contrary(-1)", x.contrary(-1), Due.BEYOND);
        Due.is(7, "contrary(100)", x.contrary(100), Due.BEYOND);
    }

    private static void rocks() {
        GorgeRocks x = new GorgeRocks();
        Due.is(8, "rock(70, 0)", x.rock(70, 0), Due.BEYOND);
        Due.is(8, "rock(-1, 0)", x.rock(-1, 0), Due.BEYOND);
        Due.is(8, "rock(0, -1)", x.rock(0, -1), Due.BEYOND);
        Due.is(8, "rock(0, 21)", x.rock(0, 21), Due.BEYOND);
        Due.is(8, "rock(69, 20)", x.rock(69, 20), 0);
        Due.is(9, "KIND", x.rockIs(0, 0), 6);
        Due.is(9, "m", x.rockIs(0, 1), 9);
        Due.is(9, "DELAY", x.rockIs(0, 2), 20);
        Due.is(9, "what 3", x.rockIs(0, 3), Due.BEYOND);
        Due.is(9, "what -1", x.rockIs(0, -1), Due.BEYOND);
        Due.is(9, "no ROCK", x.rockIs(1, 0), Due.BEYOND);
        Due.is(9, "ROCK -1", x.rockIs(-1, 0), Due.BEYOND);
        for (int i = 1; i < 8; i++) {
            Due.is(8, "rock", x.rock(i, i), i);
        }
        Due.is(8, "rock 9", x.rock(0, 0), Due.FULL);
        Due.is(8, "rock 9, BEYOND", x.rock(70, 0), Due.BEYOND);
        Due.is(8, "count(1)", x.count(1), 8);
        Due.is(9, "KIND of 7", x.rockIs(7, 0), 0);
        Due.is(9, "m of 7", x.rockIs(7, 1), 7);
    }

    private static void kinds() {
        boolean[][] under = new boolean[7][7];
        int[] above = {-1, 0, 1, 0, 0, 4, 1};
        for (int kind = 0; kind < 7; kind++) {
            for (int at = kind; at >= 0; at = above[at]) {
                under[kind][at] = true;
            }
        }
        GorgeRocks x = new GorgeRocks();
        x.rock(0, 13);
        for (int kind = 0; kind < 7; kind++) {
            x.set(0, 0, kind);
            for (int as = 0; as < 7; as++) {
                Due.is(10, kind + " as " + as, x.as(0, as), under[kind][as] ? 13 : Due.KIND);
            }
        }
        Due.is(10, "as 7", x.as(0, 7), Due.BEYOND);
        Due.is(10, "as -1", x.as(0, -1), Due.BEYOND);
        Due.is(10, "no ROCK", x.as(1, 0), Due.BEYOND);
    }

    private static void settings() {
        GorgeRocks x = new GorgeRocks();
        x.rock(23, 4);
        int[] was = {2, 3, 4};
        int[] most = {6, 9, 20};
        for (int what = 0; what < 3; what++) {
            Due.is(11, "too much", x.set(0, what, most[what] + 1), Due.BEYOND);
            Due.is(11, "below 0", x.set(0, what, -1), Due.BEYOND);
            Due.is(11, "set", x.set(0, what, most[what]), was[what]);
            Due.is(11, "rockIs", x.rockIs(0, what), most[what]);
            Due.is(11, "set 0", x.set(0, what, 0), most[what]);
        }
        Due.is(11, "what 3", x.set(0, 3, 0), Due.BEYOND);
        Due.is(11, "what -1", x.set(0, -1, 0), Due.BEYOND);
        Due.is(11, "no ROCK", x.set(1, 0, 0), Due.BEYOND);
        Due.is(11, "ROCK -1", x.set(-1, 0, 0), Due.BEYOND);
    }
}
