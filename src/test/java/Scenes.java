/** States in which calls are refused; each makes a new object, and the same one every time. */
final class Scenes {
    /** In rich(): 4 CALLS, CALL 2 of 12 SOUNDS, CALL 3 of none; 6 ROCKS, of which ROCK 4 is PARTED as it waits. */
    static final int RICH_CALLS = 4;
    static final int RICH_ROCKS = 6;
    static final int LATE_NOW = 9967;

    private Scenes() {
    }

    interface Scene {
        GorgeRocks make();
    }

    static GorgeRocks fresh() {
        return new GorgeRocks();
    }

    /** Something of everything, and an IMAGE of another state; nothing but CALL 2 is full. */
    static GorgeRocks rich() {
        GorgeRocks x = new GorgeRocks();
        Due.call(x, 5, 6);
        x.rock(62, 1);
        x.seconds(1);
        x.shout(0, 0);
        Due.text(x, 0, "s+3");
        x.feed('n', 1);
        x.tell(5);
        x.tell(6);
        x.image();
        x.restore();
        Due.say(x, 0, 2, 85, 50, 3);
        Due.call(x, 7, 44, 90);
        Due.call(x, 0, 1, 2, 3, 4, 5, 6, 7, 8, 9, 10, 11);
        x.call();
        x.set(0, 0, 1);
        x.set(0, 1, 3);
        x.rock(40, 0);
        x.rock(61, 5);
        x.rock(52, 20);
        x.rock(4, 1);
        x.rock(30, 3);
        x.text(1);
        Due.text(x, 0, "s+m");
        Due.text(x, 1, "o+b*3-1");
        Due.feed(x, "s+2");
        x.check(0, 0);
        x.tell(7);
        x.tell(44);
        x.tell(90);
        x.seconds(6);
        x.shout(0, 1);
        x.shout(1, 1);
        x.shout(0, 0);
        x.shout(1, 2);
        x.shout(2, 3);
        x.so(693);
        x.seed(-5);
        sheets(x);
        x.voice(5, 2, 9);
        return x;
    }

    private static void sheets(GorgeRocks x) {
        x.sheet(0, 8, 5);
        x.sheet(1, 8, 3);
        x.sheet(2, 16, 4);
        for (int i = 0; i < 5; i++) {
            x.put(0, i, 11 + i);
            x.put(1, i % 3, 21 + i);
            x.put(2, i % 4, 31 + i);
        }
    }

    /** All that can be full: CALLS, CALL 0, ROCKS, THE TAPE, ECHOES, THE LOG, numbers that wait. */
    static GorgeRocks full() {
        GorgeRocks x = new GorgeRocks();
        Due.call(x, 0, 1, 2, 3, 4, 5, 6, 7, 8, 9, 10, 60);
        Due.call(x, 1);
        for (int i = 2; i < 12; i++) {
            x.call();
        }
        for (int i = 0; i < 8; i++) {
            x.rock(10 * (i % 7) + i, i == 1 ? 0 : 13 + i);
        }
        for (int i = 0; i < 8; i++) {
            x.shout(1, 1);
        }
        for (int i = 0; i < 10; i++) {
            x.shout(i % 2, 2 + i % 6);
        }
        Due.feed(x, "s+s+s+s+s+s+s+s+s+s+s+s+s+s+s+s+s+s+s+s+s+s+s+s+s+s+s+s+s+12");
        for (int i = 0; i < 24; i++) {
            x.tell(i);
        }
        x.image();
        return x;
    }

    /** NOW is LATE_NOW, an ECHO is on its way. */
    static GorgeRocks late() {
        GorgeRocks x = rich();
        for (int i = 0; i < 166; i++) {
            x.seconds(60);
        }
        x.shout(2, 3);
        return x;
    }
}
