/** Promises 15 to 25: what comes back. */
public final class BackTest {
    private static final int FAR = Integer.MAX_VALUE;

    public static void main(String[] args) {
        kinds();
        swallows();
        told();
        waysRead();
        selves();
        echoes();
        which();
        ways();
        needs();
        meanings();
        safety();
        parts();
        Due.end();
    }

    private static void kinds() {
        GorgeRocks x = new GorgeRocks();
        int c = Due.call(x, 0, 1, 45, 50, 51, 52, 53, 60, 61, 80, 99, 38);
        for (int kind = 0; kind < 7; kind++) {
            x.rock(10 * kind + 1, 0);
        }
        Due.heard(15, x, c, 0, 0, 1, 45, 50, 51, 52, 53, 60, 61, 80, 99, 38);
        Due.heard(15, x, c, 1, 0, 1, 45, 50, 51, 52, 53, 60, 61, 80, 99, 38);
        Due.heard(15, x, c, 2, 1, 0, 45, 51, 50, 52, 53, 60, 61, 80, 99, 39);
        Due.heard(15, x, c, 3, 0, 0, 45, 51, 51, 52, 53, 60, 61, 80, 99, 39);
        Due.heard(15, x, c, 4, 0, 1, 45, 50, 51, 52, 53, 60, 99, 80, 61, 38);
        Due.heard(15, x, c, 5, 38, 99, 80, 61, 60, 53, 52, 51, 50, 45, 1, 0);
        Due.heard(15, x, c, 6, 38, 80, 60, 52, 50, 1);
        Due.heard(15, x, c, 7, 1, 0, 45, 51, 50, 52, 53, 60, 61, 80, 99, 39);
        Due.row(15, x, c, 0, 1, 45, 50, 51, 52, 53, 60, 61, 80, 99, 38);
        Due.is(15, "i -2", x.heard(c, 0, -2), Due.BEYOND);
        Due.is(15, "i far", x.heard(c, 0, FAR), Due.BEYOND);
        Due.is(15, "no CALL", x.heard(1, 0, -1), Due.BEYOND);
        Due.is(15, "CALL -1", x.heard(-1, 0, -1), Due.BEYOND);
        Due.is(15, "no ROCK 8", x.heard(c, 8, -1), Due.BEYOND);
    }

    private static void swallows() {
        GorgeRocks x = new GorgeRocks();
        int c = Due.call(x, 1, 2, 3, 4, 5, 6, 7);
        x.rock(50, 0);
        Due.heard(15, x, c, 1);
        x.set(0, 1, 1);
        Due.heard(15, x, c, 1, 7, 5, 3, 1);
        x.set(0, 1, 2);
        Due.heard(15, x, c, 1, 7, 6, 4, 3, 1);
        x.set(0, 1, 6);
        Due.heard(15, x, c, 1, 7, 6, 5, 4, 3, 2);
        x.set(0, 1, 7);
        Due.heard(15, x, c, 1, 7, 6, 5, 4, 3, 2, 1);
        x.set(0, 1, 2);
        Due.heard(15, x, c, 1111, 1, 6);
        x.hush(c);
        Due.heard(15, x, c, 1);
    }

    private static void told() {
        GorgeRocks x = new GorgeRocks();
        int c = Due.call(x, 10, 11, 60, 70);
        x.rock(63, 0);
        Due.heard(15, x, c, 1, 11, 10, 60, 70);
        Due.text(x, 0, "s+i*m+n");
        Due.heard(15, x, c, 1, 15, 17, 70, 83);
        Due.text(x, 0, "s*0+54+i*3");
        Due.heard(15, x, c, 1, 60, 60, 60, 63);
        Due.text(x, 0, "s<60");
        Due.heard(15, x, c, 1, 1, 1, 0, 0);
        Due.heard(15, x, c, 11, 1, 1, 1, 1);
    }

    private static void waysRead() {
        GorgeRocks x = new GorgeRocks();
        int c = Due.call(x, 1, 2);
        Due.is(17, "takes(0)", x.takes(0), 0);
        Due.is(17, "takes(1)", x.takes(1), Due.BEYOND);
        x.rock(0, 1);
        x.rock(0, 5);
        x.rock(0, 20);
        Due.is(17, "takes(1)", x.takes(1), 1);
        Due.is(17, "takes(3333)", x.takes(3333), 80);
        Due.is(17, "takes(132)", x.takes(132), 26);
        for (int way : new int[] {-1, 4, 10, 101, 1001, 1011, 1110, 14, 41, 11111, 99999, 10001, FAR, Integer.MIN_VALUE}) {
            Due.is(17, "takes(" + way + ")", x.takes(way), Due.BEYOND);
            Due.is(15, "heard over " + way, x.heard(c, way, -1), Due.BEYOND);
            Due.is(16, "self over " + way, x.self(c, way), Due.BEYOND);
        }
        // The first ROCK is the highest digit: SWALLOW then TOLD is not TOLD then SWALLOW.
        x.set(0, 0, 5);
        x.set(0, 1, 1);
        x.set(1, 0, 6);
        Due.text(x, 0, "s+i");
        Due.say(x, c, 40, 41, 42);
        Due.heard(15, x, c, 12, 42, 41);
        Due.heard(15, x, c, 21, 44, 40);
    }

    private static void selves() {
        GorgeRocks x = new GorgeRocks();
        int c = Due.call(x, 44, 2, 44);
        x.rock(40, 0);
        x.rock(10, 0);
        x.rock(50, 0);
        Due.is(16, "BACK", x.self(c, 1), 1);
        Due.is(16, "NAY", x.self(c, 2), 0);
        Due.is(16, "NAY twice", x.self(c, 22), 1);
        Due.is(16, "none", x.self(c, 0), 1);
        Due.is(16, "SWALLOW", x.self(c, 3), 0);
        Due.is(16, "no CALL", x.self(1, 0), Due.BEYOND);
        x.hush(c);
        Due.is(16, "SWALLOW of none", x.self(c, 3), 1);
    }

    private static void echoes() {
        GorgeRocks x = new GorgeRocks();
        int c = Due.call(x, 1, 2, 3);
        int d = Due.call(x, 9, 9, 9, 9);
        x.rock(40, 0);
        Due.is(18, "echo", x.echo(c, 1, d), 3);
        Due.row(18, x, d, 3, 2, 1);
        Due.row(18, x, c, 1, 2, 3);
        Due.is(18, "echo into itself", x.echo(c, 1, c), 3);
        Due.row(18, x, c, 3, 2, 1);
        Due.is(18, "no CALL", x.echo(2, 1, c), Due.BEYOND);
        Due.is(18, "no CALL into", x.echo(c, 1, 2), Due.BEYOND);
        Due.is(18, "no WAY", x.echo(c, 2, d), Due.BEYOND);
        Due.row(18, x, d, 3, 2, 1);
    }

    private static void which() {
        GorgeRocks x = new GorgeRocks();
        int c = Due.call(x, 1, 2, 1);
        int d = Due.call(x, 0, 3, 0);
        int e = Due.call(x, 1, 3, 1);
        int none = Due.call(x);
        for (int kind = 0; kind < 7; kind++) {
            x.rock(10 * kind, 0);
        }
        Due.is(19, "itself", x.which(c, c), 1 | 8 | 16);
        Due.is(19, "NAY, TOLD", x.which(c, d), 2 | 64);
        Due.is(19, "SECOND", x.which(e, c), 4);
        Due.is(19, "SWALLOW makes none of one", x.which(none, c), 32);
        Due.is(19, "no ROCK makes one of none", x.which(c, none), 0);
        Due.is(19, "none of none", x.which(none, none), 127);
        Due.is(19, "no CALL", x.which(4, c), Due.BEYOND);
        Due.is(19, "no other CALL", x.which(c, 4), Due.BEYOND);
    }

    private static void ways() {
        GorgeRocks x = new GorgeRocks();
        int c = Due.call(x, 1, 2, 1);
        int d = Due.call(x, 0, 3, 0);
        int none = Due.call(x);
        Due.is(20, "no ROCKS, itself", x.ways(c, c, 3), 1);
        Due.is(20, "no ROCKS", x.ways(c, d, 3), 0);
        x.rock(0, 0);
        x.rock(10, 0);
        Due.is(20, "itself by 0", x.ways(c, c, 0), 1);
        Due.is(20, "itself by 1", x.ways(c, c, 1), 2);
        Due.is(20, "itself by 2", x.ways(c, c, 2), 4);
        Due.is(20, "itself by 3", x.ways(c, c, 3), 8);
        Due.is(20, "contrary by 0", x.ways(c, d, 0), 0);
        Due.is(20, "contrary by 1", x.ways(c, d, 1), 1);
        Due.is(20, "contrary by 2", x.ways(c, d, 2), 3);
        Due.is(20, "contrary by 3", x.ways(c, d, 3), 7);
        x.rock(50, 0);
        Due.is(20, "one becomes none by 1", x.ways(c, none, 1), 1);
        Due.is(20, "one becomes none by 2", x.ways(c, none, 2), 1 + 5);
        Due.is(20, "none becomes one", x.ways(none, c, 3), 0);
        Due.is(20, "k 4", x.ways(c, c, 4), Due.BEYOND);
        Due.is(20, "k -1", x.ways(c, c, -1), Due.BEYOND);
        Due.is(20, "no CALL", x.ways(3, c, 1), Due.BEYOND);
        Due.is(20, "no other CALL", x.ways(c, 3, 1), Due.BEYOND);
    }

    private static void needs() {
        GorgeRocks x = new GorgeRocks();
        int c = Due.call(x, 1, 2, 90, 50);
        for (int kind = 0; kind < 7; kind++) {
            x.rock(10 * kind + 9, 0);
        }
        Due.needed(21, x, c, 0, 1, 2, 90, 50);
        Due.needed(21, x, c, 1, 1, 2, 90, 50);
        Due.needed(21, x, c, 2, 0, 3, 90, 51);
        Due.needed(21, x, c, 3, 1, 3, 90, 51);
        Due.needed(21, x, c, 4, 1, 2, 70, 50);
        Due.needed(21, x, c, 5, 50, 90, 2, 1);
        // SECOND, then BACK: what is HEARD is undone from BACK on.
        Due.needed(21, x, c, 35, 50, 90, 2, 0);
        Due.needed(21, x, c, 53, 51, 90, 3, 1);
        Due.is(21, "SWALLOW", x.need(c, 6, -1), Due.STATE);
        Due.is(21, "TOLD", x.need(c, 7, 0), Due.STATE);
        Due.is(21, "one of several", x.need(c, 1261, 0), Due.STATE);
        Due.is(21, "STATE ahead of none such", x.need(c, 6, 4), Due.STATE);
        Due.is(21, "BEYOND below -1 ahead of STATE", x.need(c, 6, -2), Due.BEYOND);
        Due.is(21, "none such", x.need(c, 1, 4), Due.BEYOND);
        Due.is(21, "no WAY", x.need(c, 8, 0), Due.BEYOND);
        Due.is(21, "no CALL", x.need(1, 6, 0), Due.BEYOND);
        Due.is(21, "told(3)", x.told(3), 4);
    }

    private static void meanings() {
        GorgeRocks x = new GorgeRocks();
        int c = Due.call(x, 2, 44, 90);
        int none = Due.call(x);
        Due.is(22, "no ROCKS", x.meant(c, 2), 1);
        x.rock(50, 0);
        x.rock(60, 0);
        Due.is(22, "none that can be undone", x.meant(c, 2), 1);
        x.rock(0, 0);
        x.rock(10, 0);
        Due.is(22, "by 0", x.meant(c, 0), 1);
        Due.is(22, "by 1", x.meant(c, 1), 2);
        Due.is(22, "by 2", x.meant(c, 2), 2);
        Due.is(23, "which", x.place(c, 2, 0), 0);
        Due.is(23, "how many", x.place(c, 2, 1), 2);
        x.rock(30, 0);
        x.rock(40, 0);
        Due.is(22, "LESS, BACK by 1", x.meant(c, 1), 4);
        // 2 44 90; 3 44 90; 2 44 70; 90 44 2; and by two: 3 44 70, 90 44 3, 70 44 2.
        Due.is(22, "LESS, BACK by 2", x.meant(c, 2), 7);
        Due.is(23, "which by 1", x.place(c, 1, 0), 0);
        Due.is(23, "how many by 1", x.place(c, 1, 1), 3);
        Due.is(23, "how many by 2", x.place(c, 2, 1), 4);
        Due.is(23, "how many by 0", x.place(c, 0, 1), 1);
        Due.say(x, c, 44, 45, 44);
        Due.is(23, "none unlike", x.place(c, 2, 0), 0);
        Due.is(23, "none unlike: one", x.place(c, 2, 1), 1);
        Due.say(x, c, 44, 2, 45, 44);
        Due.is(23, "not the first", x.place(c, 1, 0), 1);
        Due.is(23, "how many there", x.place(c, 1, 1), 3);
        Due.is(22, "none at all", x.meant(none, 2), 1);
        Due.is(23, "none at all", x.place(none, 2, 0), 0);
        Due.is(23, "none at all: 0", x.place(none, 2, 1), 0);
        x.set(0, 0, 1);
        x.set(3, 0, 0);
        Due.say(x, c, 2, 44, 90);
        Due.is(22, "ROCK 0, too", x.meant(c, 1), 4);
        Due.is(22, "k 3", x.meant(c, 3), Due.BEYOND);
        Due.is(22, "k -1", x.meant(c, -1), Due.BEYOND);
        Due.is(22, "no CALL", x.meant(2, 0), Due.BEYOND);
        Due.is(23, "k 3", x.place(c, 3, 0), Due.BEYOND);
        Due.is(23, "k -1", x.place(c, -1, 0), Due.BEYOND);
        Due.is(23, "what 2", x.place(c, 0, 2), Due.BEYOND);
        Due.is(23, "what -1", x.place(c, 0, -1), Due.BEYOND);
        Due.is(23, "no CALL", x.place(2, 0, 0), Due.BEYOND);
    }

    private static void safety() {
        GorgeRocks x = new GorgeRocks();
        int c = Due.call(x, 40, 52, 53, 60, 80);
        for (int kind = 0; kind < 7; kind++) {
            x.rock(10 * kind + 4, 0);
        }
        Due.is(24, "by all that leave the row", x.safe(c, 0), 1 | 2 | 4 | 8 | 64);
        Due.is(24, "all are their own CONTRARIES", x.safe(c, 1), 0);
        Due.say(x, c, 50, 1, 61, 99, 51, 40);
        Due.is(24, "ROCK alone", x.safe(c, 0), 1);
        Due.is(24, "all but one", x.safe(c, 1), 5);
        Due.say(x, c, 40, 41, 41, 40);
        Due.is(24, "SWALLOW, too short for it", x.safe(c, 0), 127);
        Due.is(24, "what 2", x.safe(c, 2), Due.BEYOND);
        Due.is(24, "what -1", x.safe(c, -1), Due.BEYOND);
        Due.is(24, "no CALL", x.safe(1, 0), Due.BEYOND);
    }

    private static void parts() {
        GorgeRocks x = new GorgeRocks();
        int c = Due.call(x, 40, 40, 2, 40);
        x.rock(10, 0);
        x.rock(52, 0);
        x.rock(50, 0);
        Due.is(25, "NAY", x.part(c, 0, 1), 2);
        Due.is(25, "alike", x.part(c, 11, 0), Due.NONE);
        Due.is(25, "the same", x.part(c, 2, 2), Due.NONE);
        Due.is(25, "SWALLOW", x.part(c, 0, 2), 1);
        Due.is(25, "one lacks all", x.part(c, 3, 0), 0);
        Due.say(x, c, 40, 40, 40, 40);
        Due.is(25, "one lacks the last", x.part(c, 0, 2), 3);
        Due.is(25, "the other one lacks it", x.part(c, 2, 0), 3);
        Due.is(25, "no WAY", x.part(c, 4, 0), Due.BEYOND);
        Due.is(25, "no other WAY", x.part(c, 0, 4), Due.BEYOND);
        Due.is(25, "no CALL", x.part(1, 0, 1), Due.BEYOND);
    }
}
