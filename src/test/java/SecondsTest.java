/** Promises 29 to 31: ECHOES on their way, SECONDS, THE LOG. */
public final class SecondsTest {
    public static void main(String[] args) {
        shouts();
        order();
        unlikeEchoes();
        asTheyAreThen();
        full();
        time();
        latestRows();
        Due.end();
    }

    private static void shouts() {
        GorgeRocks x = new GorgeRocks();
        int c = Due.call(x, 1, 2);
        x.rock(10, 2);
        x.rock(40, 0);
        Due.is(29, "shout", x.shout(c, 0), 2);
        Due.is(29, "on its way", x.count(3), 1);
        Due.is(29, "not HEARD yet", x.count(4), 0);
        Due.is(29, "shout, DELAY 0", x.shout(c, 1), 0);
        Due.is(29, "not on its way", x.count(3), 1);
        Due.logged(29, x, 0, 2, 1);
        Due.is(30, "seconds", x.seconds(1), 1);
        Due.is(30, "not yet", x.count(4), 1);
        Due.is(29, "shout later", x.shout(c, 0), 3);
        Due.is(30, "seconds", x.seconds(1), 2);
        Due.is(30, "one came", x.count(3), 1);
        Due.logged(31, x, 0, 0, 3);
        Due.logged(31, x, 1, 2, 1);
        Due.is(31, "no such row", x.log(2, -1), Due.NONE);
        Due.is(31, "no such row, i -2", x.log(2, -2), Due.NONE);
        Due.is(31, "row -1", x.log(-1, 9), Due.NONE);
        Due.is(31, "i -2", x.log(0, -2), Due.BEYOND);
        Due.is(31, "no such SOUND", x.log(0, 2), Due.BEYOND);
        Due.is(29, "no CALL", x.shout(1, 0), Due.BEYOND);
        Due.is(29, "no ROCK", x.shout(c, 2), Due.BEYOND);
        Due.is(29, "ROCK -1", x.shout(c, -1), Due.BEYOND);
    }

    private static void order() {
        GorgeRocks x = new GorgeRocks();
        int c = Due.call(x, 1);
        int d = Due.call(x, 2);
        int e = Due.call(x, 3);
        x.rock(0, 3);
        x.rock(0, 2);
        x.shout(c, 0);
        x.seconds(1);
        x.shout(d, 1);
        x.shout(e, 1);
        x.seconds(2);
        Due.logged(30, x, 2, 1);
        Due.logged(30, x, 1, 2);
        Due.logged(30, x, 0, 3);
        // One that was shouted later comes earlier, if its DELAY is less.
        x.shout(c, 0);
        x.shout(d, 1);
        x.shout(e, 0);
        x.seconds(60);
        Due.logged(30, x, 2, 2);
        Due.logged(30, x, 1, 1);
        Due.logged(30, x, 0, 3);
        Due.is(30, "none are left", x.count(3), 0);
    }

    /** Each ECHO keeps its own CALL and ROCK, whichever of them came ahead of it. */
    private static void unlikeEchoes() {
        GorgeRocks x = new GorgeRocks();
        int c = Due.call(x, 1, 2);
        int d = Due.call(x, 5, 6);
        x.rock(40, 1);
        x.rock(10, 3);
        x.rock(0, 2);
        x.shout(c, 0);
        x.shout(d, 1);
        x.shout(c, 1);
        x.shout(d, 2);
        x.shout(d, 0);
        x.seconds(1);
        Due.logged(30, x, 1, 2, 1);
        Due.logged(30, x, 0, 6, 5);
        x.image();
        x.seconds(1);
        Due.logged(30, x, 0, 5, 6);
        x.seconds(1);
        Due.logged(30, x, 1, 4, 7);
        Due.logged(30, x, 0, 0, 3);
        for (int i = 0; i < 9; i++) {
            x.shout(d, 0);
        }
        x.seconds(5);
        Due.is(41, "restore", x.restore(), 1);
        Due.is(41, "rows", x.count(4), 2);
        Due.logged(41, x, 1, 2, 1);
        Due.logged(41, x, 0, 6, 5);
        x.seconds(2);
        Due.logged(41, x, 2, 5, 6);
        Due.logged(41, x, 1, 4, 7);
        Due.logged(41, x, 0, 0, 3);
    }

    private static void asTheyAreThen() {
        GorgeRocks x = new GorgeRocks();
        int c = Due.call(x, 1, 2);
        x.rock(0, 5);
        x.shout(c, 0);
        x.set(0, 0, 6);
        x.set(0, 1, 7);
        x.set(0, 2, 20);
        x.sound(c, 4);
        Due.text(x, 0, "s+m");
        x.seconds(4);
        Due.is(30, "the time stays", x.count(4), 0);
        x.seconds(1);
        Due.logged(30, x, 0, 7, 10, 12);
        x.hush(c);
        Due.logged(31, x, 0, 7, 10, 12);
        x.set(0, 2, 0);
        x.shout(c, 0);
        Due.logged(31, x, 0);
    }

    private static void full() {
        GorgeRocks x = new GorgeRocks();
        int c = Due.call(x, 1);
        x.rock(0, 20);
        x.rock(0, 0);
        for (int i = 0; i < 10; i++) {
            Due.is(29, "shout", x.shout(c, 0), 20);
        }
        Due.is(29, "an 11th", x.shout(c, 0), Due.FULL);
        Due.is(29, "with DELAY 0, too", x.shout(c, 1), Due.FULL);
        Due.is(29, "BEYOND ahead of FULL", x.shout(c, 2), Due.BEYOND);
        Due.is(29, "count(3)", x.count(3), 10);
        Due.is(29, "count(4)", x.count(4), 0);
        x.seconds(20);
        Due.is(30, "all came", x.count(3), 0);
        Due.is(30, "8 are kept", x.count(4), 8);
    }

    private static void time() {
        GorgeRocks x = new GorgeRocks();
        Due.is(30, "0", x.seconds(0), Due.BEYOND);
        Due.is(30, "-1", x.seconds(-1), Due.BEYOND);
        Due.is(30, "61", x.seconds(61), Due.BEYOND);
        for (int i = 1; i <= 166; i++) {
            Due.is(30, "seconds", x.seconds(60), 60 * i);
        }
        Due.is(30, "10000", x.seconds(40), Due.STATE);
        Due.is(30, "BEYOND ahead of STATE", x.seconds(61), Due.BEYOND);
        Due.is(30, "9960", x.count(2), 9960);
        Due.is(30, "9999", x.seconds(39), 9999);
        Due.is(30, "one more", x.seconds(1), Due.STATE);
        int c = Due.call(x, 1);
        x.rock(0, 20);
        Due.is(29, "never HEARD", x.shout(c, 0), 10019);
    }

    private static void latestRows() {
        GorgeRocks x = new GorgeRocks();
        int c = Due.call(x);
        x.rock(0, 0);
        for (int i = 0; i < 20; i++) {
            Due.say(x, c, i, i);
            x.shout(c, 0);
            Due.is(31, "rows", x.count(4), Math.min(i + 1, 8));
        }
        for (int k = 0; k < 8; k++) {
            Due.logged(31, x, k, 19 - k, 19 - k);
        }
        Due.is(31, "the 9th", x.log(8, -1), Due.NONE);
    }
}
