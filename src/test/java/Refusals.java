import java.util.ArrayList;
import java.util.List;

/**
 * Each refused call of the document: the ERROR that is due, also where several would be, and nothing else changed.
 * They are asked for by promise and ERROR, so that each sentence that names an ERROR has its own.
 */
final class Refusals {
    private static final int LEAST = Integer.MIN_VALUE;
    private static final int MOST = Integer.MAX_VALUE;
    private static final int[] CALLS = {-1, Scenes.RICH_CALLS, 12, LEAST, MOST};
    private static final int[] ROCKS = {-1, Scenes.RICH_ROCKS, 8, LEAST, MOST};
    /** No such ROCK; a digit 0; five digits; below 0. */
    private static final int[] WAYS = {7, 17, 71, 1117, 9, 10, 20, 100, 101, 1000, 1001, 1010, 1110, 6000, 11111, 10000, 99999, -1, -11, LEAST, MOST};
    private static final int[] SHEETS = {-1, 4, LEAST, MOST};
    private static final int[] NO_SOUNDS = {-1, 54, 55, 56, 57, 58, 59, 100, 256, LEAST, MOST};

    private static final Scenes.Scene FRESH = Scenes::fresh;
    private static final Scenes.Scene RICH = Scenes::rich;
    private static final Scenes.Scene FULL = Scenes::full;
    private static final Scenes.Scene LATE = Scenes::late;

    private static final class Entry {
        int promise;
        int error;
        String what;
        Scenes.Scene scene;
        Twins.Act act;
        Twins.Act ofTwin;
    }

    private final List<Entry> entries = new ArrayList<>();

    Refusals() {
        calls();
        rocks();
        texts();
        heard();
        made();
        understood();
        said();
        seconds();
        bargains();
        voices();
        sheets();
        moves();
        told();
    }

    /** All of them that are of a promise and an ERROR. */
    void of(int promise, int error) {
        for (Entry e : entries) {
            if (e.promise == promise && e.error == error) {
                Twins.refused(promise, e.what, error, e.scene, e.act, e.ofTwin);
            }
        }
    }

    /** All of them. */
    void all() {
        for (int promise = 1; promise <= 45; promise++) {
            for (int k = 1; k <= 6; k++) {
                of(promise, -1000000 - k);
            }
        }
    }

    private void add(int promise, String what, int error, Scenes.Scene scene, Twins.Act act) {
        addChanging(promise, what, error, scene, act, null);
    }

    private void addChanging(int promise, String what, int error, Scenes.Scene scene, Twins.Act act, Twins.Act ofTwin) {
        Entry e = new Entry();
        e.promise = promise;
        e.error = error;
        e.what = what;
        e.scene = scene;
        e.act = act;
        e.ofTwin = ofTwin;
        entries.add(e);
    }

    private void beyond(int promise, String what, Twins.Act act) {
        add(promise, what, Due.BEYOND, RICH, act);
    }

    private void calls() {
        add(2, "call() 13", Due.FULL, FULL, x -> x.call());
        for (int call : CALLS) {
            beyond(3, "sound(" + call + ", 0)", x -> x.sound(call, 0));
            beyond(4, "soundOf(" + call + ", -1)", x -> x.soundOf(call, -1));
            beyond(4, "soundOf(" + call + ", 0)", x -> x.soundOf(call, 0));
            beyond(5, "hush(" + call + ")", x -> x.hush(call));
            beyond(6, "draw(" + call + ", 3)", x -> x.draw(call, 3));
        }
        for (int sound : NO_SOUNDS) {
            beyond(3, "sound(0, " + sound + ")", x -> x.sound(0, sound));
            beyond(3, "BEYOND ahead of FULL, sound(2, " + sound + ")", x -> x.sound(2, sound));
            beyond(7, "contrary(" + sound + ")", x -> x.contrary(sound));
        }
        add(3, "no CALL at all", Due.BEYOND, FRESH, x -> x.sound(0, 0));
        add(3, "the 13th SOUND", Due.FULL, RICH, x -> x.sound(2, 0));
        add(3, "the 13th SOUND", Due.FULL, FULL, x -> x.sound(0, 99));
        for (int i : new int[] {-2, 4, 12, LEAST, MOST}) {
            beyond(4, "soundOf(0, " + i + ")", x -> x.soundOf(0, i));
        }
        beyond(4, "soundOf(2, 12)", x -> x.soundOf(2, 12));
        beyond(4, "of an empty CALL", x -> x.soundOf(3, 0));
        add(4, "no CALL at all", Due.BEYOND, FRESH, x -> x.soundOf(0, -1));
        add(5, "no CALL at all", Due.BEYOND, FRESH, x -> x.hush(0));
        add(6, "no CALL at all", Due.BEYOND, FRESH, x -> x.draw(0, 0));
        for (int n : new int[] {-1, 13, LEAST, MOST}) {
            beyond(6, "draw(0, " + n + ")", x -> x.draw(0, n));
        }
    }

    private void rocks() {
        for (int km : new int[] {-1, -10, 70, 79, 100, LEAST, MOST}) {
            beyond(8, "rock(" + km + ", 0)", x -> x.rock(km, 0));
            add(8, "BEYOND ahead of FULL, rock(" + km + ", 0)", Due.BEYOND, FULL, x -> x.rock(km, 0));
        }
        for (int delay : new int[] {-1, 21, LEAST, MOST}) {
            beyond(8, "rock(0, " + delay + ")", x -> x.rock(0, delay));
            add(8, "BEYOND ahead of FULL, rock(0, " + delay + ")", Due.BEYOND, FULL, x -> x.rock(0, delay));
            beyond(11, "set(0, 2, " + delay + ")", x -> x.set(0, 2, delay));
        }
        add(8, "a 9th ROCK", Due.FULL, FULL, x -> x.rock(0, 0));
        add(8, "a 9th ROCK", Due.FULL, FULL, x -> x.rock(69, 20));
        for (int rock : ROCKS) {
            beyond(9, "rockIs(" + rock + ", 0)", x -> x.rockIs(rock, 0));
            beyond(10, "as(" + rock + ", 0)", x -> x.as(rock, 0));
            beyond(11, "set(" + rock + ", 0, 0)", x -> x.set(rock, 0, 0));
        }
        add(9, "no ROCK at all", Due.BEYOND, FRESH, x -> x.rockIs(0, 0));
        add(10, "no ROCK at all", Due.BEYOND, FRESH, x -> x.as(0, 0));
        add(11, "no ROCK at all", Due.BEYOND, FRESH, x -> x.set(0, 0, 0));
        for (int what : new int[] {-1, 3, LEAST, MOST}) {
            beyond(9, "rockIs(0, " + what + ")", x -> x.rockIs(0, what));
            beyond(11, "set(0, " + what + ", 0)", x -> x.set(0, what, 0));
        }
        for (int kind : new int[] {-1, 7, LEAST, MOST}) {
            beyond(10, "as(0, " + kind + ")", x -> x.as(0, kind));
            beyond(11, "set(0, 0, " + kind + ")", x -> x.set(0, 0, kind));
        }
        for (int m : new int[] {-1, 10, LEAST, MOST}) {
            beyond(11, "set(0, 1, " + m + ")", x -> x.set(0, 1, m));
        }
        for (int kind = 2; kind < 7; kind++) {
            int k = kind;
            add(10, "NAY as " + k, Due.KIND, RICH, x -> x.as(0, k));
        }
        add(10, "SWALLOW as LESS", Due.KIND, RICH, x -> x.as(3, 3));
        add(10, "ROCK as NAY", Due.KIND, RICH, x -> x.as(4, 1));
    }

    private void texts() {
        for (int n : new int[] {-1, 0, 9, LEAST, MOST}) {
            beyond(12, "feed(115, " + n + ")", x -> x.feed(115L, n));
            add(12, "BEYOND ahead of FULL, feed(115, " + n + ")", Due.BEYOND, FULL, x -> x.feed(115L, n));
        }
        for (int n = 1; n <= 8; n++) {
            int more = n;
            add(12, n + " bytes more than 60", Due.FULL, FULL, x -> x.feed(115L, more));
            add(12, n + " bytes, of which one is too many", Due.FULL, () -> tapeOf(61 - more), x -> x.feed(115L, more));
        }
        for (int use : new int[] {-1, 2, LEAST, MOST}) {
            beyond(13, "text(" + use + ")", x -> x.text(use));
            add(13, "THE TAPE is full, text(" + use + ")", Due.BEYOND, FULL, x -> x.text(use));
            add(13, "THE TAPE is empty, text(" + use + ")", Due.BEYOND, FRESH, x -> x.text(use));
            beyond(14, "untell(" + use + ")", x -> x.untell(use));
        }
    }

    /** THE TAPE has so many bytes. */
    private static GorgeRocks tapeOf(int bytes) {
        GorgeRocks x = new GorgeRocks();
        Due.feed(x, "s".repeat(bytes));
        return x;
    }

    private void heard() {
        for (int call : CALLS) {
            beyond(15, "heard(" + call + ", 0, -1)", x -> x.heard(call, 0, -1));
            beyond(16, "self(" + call + ", 0)", x -> x.self(call, 0));
            beyond(18, "echo(" + call + ", 1, 0)", x -> x.echo(call, 1, 0));
            beyond(18, "echo(0, 1, " + call + ")", x -> x.echo(0, 1, call));
        }
        for (int way : WAYS) {
            beyond(15, "heard(0, " + way + ", -1)", x -> x.heard(0, way, -1));
            beyond(16, "self(0, " + way + ")", x -> x.self(0, way));
            beyond(17, "takes(" + way + ")", x -> x.takes(way));
            beyond(18, "echo(0, " + way + ", 1)", x -> x.echo(0, way, 1));
        }
        for (int i : new int[] {-2, 4, 12, LEAST, MOST}) {
            beyond(15, "heard(0, 1, " + i + ")", x -> x.heard(0, 1, i));
        }
        beyond(15, "what was swallowed", x -> x.heard(0, 4, 3));
        beyond(15, "of an empty CALL", x -> x.heard(3, 0, 0));
        add(15, "no CALL at all", Due.BEYOND, FRESH, x -> x.heard(0, 0, -1));
        add(16, "no CALL at all", Due.BEYOND, FRESH, x -> x.self(0, 0));
        add(17, "no ROCK at all", Due.BEYOND, FRESH, x -> x.takes(1));
        add(17, "no ROCK 8", Due.BEYOND, FULL, x -> x.takes(9));
        add(17, "no ROCK 8", Due.BEYOND, FULL, x -> x.takes(8889));
        add(18, "no CALL at all", Due.BEYOND, FRESH, x -> x.echo(0, 0, 0));
    }

    private void made() {
        for (int call : CALLS) {
            beyond(19, "which(" + call + ", 0)", x -> x.which(call, 0));
            beyond(19, "which(0, " + call + ")", x -> x.which(0, call));
            beyond(20, "ways(" + call + ", 0, 1)", x -> x.ways(call, 0, 1));
            beyond(20, "ways(0, " + call + ", 1)", x -> x.ways(0, call, 1));
            beyond(21, "need(" + call + ", 0, -1)", x -> x.need(call, 0, -1));
            beyond(21, "BEYOND ahead of STATE, need(" + call + ", 3, -1)", x -> x.need(call, 3, -1));
        }
        for (int k : new int[] {-1, 4, LEAST, MOST}) {
            beyond(20, "ways(0, 1, " + k + ")", x -> x.ways(0, 1, k));
        }
        for (int way : WAYS) {
            beyond(21, "need(0, " + way + ", -1)", x -> x.need(0, way, -1));
        }
        beyond(21, "a WAY over TOLD and no ROCK", x -> x.need(0, 37, -1));
        beyond(21, "a WAY over no ROCK and TOLD", x -> x.need(0, 73, -1));
        for (int i : new int[] {-2, LEAST}) {
            beyond(21, "need(0, 1, " + i + ")", x -> x.need(0, 1, i));
            beyond(21, "i below -1 ahead of STATE, need(0, 3, " + i + ")", x -> x.need(0, 3, i));
        }
        for (int i : new int[] {4, 12, MOST}) {
            beyond(21, "need(0, 1, " + i + ")", x -> x.need(0, 1, i));
            add(21, "STATE ahead of none such, need(0, 3, " + i + ")", Due.STATE, RICH, x -> x.need(0, 3, i));
        }
        beyond(21, "of an empty CALL", x -> x.need(3, 1, 0));
        for (int way : new int[] {3, 4, 31, 13, 1131, 4111, 34}) {
            add(21, "need(0, " + way + ", -1)", Due.STATE, RICH, x -> x.need(0, way, -1));
            add(21, "need(0, " + way + ", 0)", Due.STATE, RICH, x -> x.need(0, way, 0));
            add(21, "none such of an empty CALL, need(3, " + way + ", 0)", Due.STATE, RICH, x -> x.need(3, way, 0));
        }
        add(19, "no CALL at all", Due.BEYOND, FRESH, x -> x.which(0, 0));
        add(20, "no CALL at all", Due.BEYOND, FRESH, x -> x.ways(0, 0, 0));
        add(21, "no CALL at all", Due.BEYOND, FRESH, x -> x.need(0, 0, -1));
    }

    private void understood() {
        for (int call : CALLS) {
            beyond(22, "meant(" + call + ", 1)", x -> x.meant(call, 1));
            beyond(23, "place(" + call + ", 1, 0)", x -> x.place(call, 1, 0));
            beyond(24, "safe(" + call + ", 0)", x -> x.safe(call, 0));
            beyond(24, "safe(" + call + ", 1)", x -> x.safe(call, 1));
            beyond(25, "part(" + call + ", 0, 1)", x -> x.part(call, 0, 1));
            beyond(25, "BEYOND ahead of NONE, part(" + call + ", 0, 0)", x -> x.part(call, 0, 0));
        }
        for (int k : new int[] {-1, 3, LEAST, MOST}) {
            beyond(22, "meant(0, " + k + ")", x -> x.meant(0, k));
            beyond(23, "place(0, " + k + ", 0)", x -> x.place(0, k, 0));
            beyond(23, "place(0, " + k + ", 1)", x -> x.place(0, k, 1));
        }
        for (int what : new int[] {-1, 2, LEAST, MOST}) {
            beyond(23, "place(0, 1, " + what + ")", x -> x.place(0, 1, what));
            beyond(24, "safe(0, " + what + ")", x -> x.safe(0, what));
        }
        for (int way : WAYS) {
            beyond(25, "part(0, " + way + ", 0)", x -> x.part(0, way, 0));
            beyond(25, "part(0, 0, " + way + ")", x -> x.part(0, 0, way));
            beyond(25, "BEYOND ahead of NONE, part(0, " + way + ", " + way + ")", x -> x.part(0, way, way));
        }
        add(25, "the same WAY", Due.NONE, RICH, x -> x.part(0, 1, 1));
        add(25, "no ROCKS", Due.NONE, RICH, x -> x.part(0, 0, 0));
        add(25, "NAY twice", Due.NONE, RICH, x -> x.part(0, 11, 0));
        add(25, "an empty CALL", Due.NONE, RICH, x -> x.part(3, 1234, 4));
        add(22, "no CALL at all", Due.BEYOND, FRESH, x -> x.meant(0, 0));
        add(23, "no CALL at all", Due.BEYOND, FRESH, x -> x.place(0, 0, 0));
        add(24, "no CALL at all", Due.BEYOND, FRESH, x -> x.safe(0, 0));
        add(25, "no CALL at all", Due.BEYOND, FRESH, x -> x.part(0, 0, 0));
    }

    private void said() {
        for (int call : CALLS) {
            beyond(26, "reads(" + call + ")", x -> x.reads(call));
            beyond(28, "says(" + call + ", 0)", x -> x.says(call, 0));
        }
        for (int set : new int[] {-1, 1048576, LEAST, MOST}) {
            beyond(27, "so(" + set + ")", x -> x.so(set));
        }
        for (int way : WAYS) {
            beyond(28, "says(0, " + way + ")", x -> x.says(0, way));
            beyond(28, "BEYOND ahead of NONE, says(3, " + way + ")", x -> x.says(3, way));
        }
        add(26, "no CALL at all", Due.BEYOND, FRESH, x -> x.reads(0));
        add(28, "no CALL at all", Due.BEYOND, FRESH, x -> x.says(0, 0));
        add(28, "an empty CALL", Due.NONE, RICH, x -> x.says(3, 0));
        add(28, "a CALL of WORDS alone", Due.NONE, RICH, x -> x.says(2, 0));
        add(28, "over BACK", Due.NONE, RICH, x -> x.says(1, 2));
    }

    private void seconds() {
        for (int call : CALLS) {
            beyond(29, "shout(" + call + ", 1)", x -> x.shout(call, 1));
        }
        for (int rock : ROCKS) {
            beyond(29, "shout(0, " + rock + ")", x -> x.shout(0, rock));
        }
        for (int wrong : new int[] {-1, 12, LEAST, MOST}) {
            add(29, "BEYOND ahead of FULL, shout(" + wrong + ", 0)", Due.BEYOND, FULL, x -> x.shout(wrong, 0));
            add(29, "BEYOND ahead of FULL, shout(0, " + wrong + ")", Due.BEYOND, FULL, x -> x.shout(0, wrong));
        }
        add(29, "no CALL, no ROCK at all", Due.BEYOND, FRESH, x -> x.shout(0, 0));
        add(29, "an 11th ECHO", Due.FULL, FULL, x -> x.shout(0, 0));
        add(29, "an 11th ECHO of DELAY 0", Due.FULL, FULL, x -> x.shout(1, 1));
        for (int n : new int[] {-1, 0, 61, LEAST, MOST}) {
            beyond(30, "seconds(" + n + ")", x -> x.seconds(n));
            add(30, "BEYOND ahead of STATE, seconds(" + n + ")", Due.BEYOND, LATE, x -> x.seconds(n));
        }
        for (int n : new int[] {10000 - Scenes.LATE_NOW, 60}) {
            add(30, "NOW and " + n + " is above 9999", Due.STATE, LATE, x -> x.seconds(n));
        }
        for (int i : new int[] {-2, 4, 12, LEAST, MOST}) {
            beyond(31, "log(1, " + i + ")", x -> x.log(1, i));
        }
        for (int k : new int[] {-1, 3, 8, LEAST, MOST}) {
            for (int i : new int[] {-1, 0, -2, MOST}) {
                add(31, "log(" + k + ", " + i + ")", Due.NONE, RICH, x -> x.log(k, i));
            }
        }
        add(31, "no row at all", Due.NONE, FRESH, x -> x.log(0, -1));
        add(31, "a 9th row", Due.NONE, FULL, x -> x.log(8, -1));
    }

    private void bargains() {
        for (int ab : new int[] {-1, -100, 40, 99, 140, 2055, 3940, 3999, 4000, 4039, LEAST, MOST}) {
            for (int what = 0; what < 4; what++) {
                int w = what;
                beyond(32, "bargain(" + ab + ", 0, 0, 1, " + what + ")", x -> x.bargain(ab, 0, 0, 1, w));
            }
        }
        for (int way : WAYS) {
            beyond(32, "bargain(3010, " + way + ", 0, 1, 2)", x -> x.bargain(3010, way, 0, 1, 2));
            beyond(32, "bargain(3010, 0, " + way + ", 1, 3)", x -> x.bargain(3010, 0, way, 1, 3));
            beyond(32, "BEYOND ahead of NONE, bargain(3010, 0, " + way + ", 1, 0)", x -> x.bargain(3010, 0, way, 1, 0));
        }
        for (int n : new int[] {-1, 0, 61, LEAST, MOST}) {
            beyond(32, "bargain(3010, 0, 0, " + n + ", 2)", x -> x.bargain(3010, 0, 0, n, 2));
        }
        for (int what : new int[] {-1, 4, LEAST, MOST}) {
            beyond(32, "bargain(3010, 0, 0, 1, " + what + ")", x -> x.bargain(3010, 0, 0, 1, what));
        }
        add(32, "no WAY 1", Due.BEYOND, FRESH, x -> x.bargain(0, 1, 0, 1, 2));
        add(32, "it does not close", Due.NONE, RICH, x -> x.bargain(3010, 0, 0, 1, 0));
        add(32, "it is not ODD", Due.NONE, RICH, x -> x.bargain(3010, 0, 0, 60, 1));
        add(32, "nor is one that does not close", Due.NONE, FRESH, x -> x.bargain(3010, 0, 0, 1, 1));
    }

    private void voices() {
        for (int rock : ROCKS) {
            beyond(34, "voice(" + rock + ", 0, 1)", x -> x.voice(rock, 0, 1));
        }
        for (int voice : new int[] {-1, 4, LEAST, MOST}) {
            beyond(34, "voice(0, " + voice + ", 1)", x -> x.voice(0, voice, 1));
            beyond(34, "BEYOND ahead of PARTED, voice(4, " + voice + ", 1)", x -> x.voice(4, voice, 1));
        }
        add(34, "no ROCK at all", Due.BEYOND, FRESH, x -> x.voice(0, 0, 0));
        // BODY 13 alone is THE TRACE of ROCK 1, too, which is not PARTED (m 0, k 1).
        addChanging(34, "m is k", Due.PARTED, RICH, x -> x.voice(4, 3, 9), x -> -x.voice(1, 3, 9));
        for (int i : new int[] {-1, 4, 29, 30, LEAST, MOST}) {
            add(35, "body(" + i + ")", Due.NONE, RICH, x -> x.body(i));
        }
        add(35, "no voice at all", Due.NONE, FRESH, x -> x.body(0));
    }

    private void sheets() {
        for (int sheet : SHEETS) {
            beyond(36, "sheet(" + sheet + ", 8, 1)", x -> x.sheet(sheet, 8, 1));
            beyond(36, "sheet(" + sheet + ", 0, 1)", x -> x.sheet(sheet, 0, 1));
            beyond(36, "BEYOND of the SHEET ahead of STATE, sheet(" + sheet + ", 8, -1)", x -> x.sheet(sheet, 8, -1));
            beyond(37, "put(" + sheet + ", 0, 1)", x -> x.put(sheet, 0, 1));
            beyond(39, "sounds(" + sheet + ", 0)", x -> x.sounds(sheet, 0));
        }
        for (int bits : new int[] {-8, -1, 1, 7, 9, 15, 17, 24, 31, 33, 64, LEAST, MOST}) {
            beyond(36, "sheet(0, " + bits + ", 1)", x -> x.sheet(0, bits, 1));
            beyond(36, "BEYOND of bits ahead of STATE, sheet(0, " + bits + ", -1)", x -> x.sheet(0, bits, -1));
        }
        for (int bits : new int[] {8, 16, 32}) {
            beyond(36, "sheet(0, " + bits + ", 25)", x -> x.sheet(0, bits, 25));
            beyond(36, "sheet(3, " + bits + ", MOST)", x -> x.sheet(3, bits, MOST));
            add(36, "sheet(0, " + bits + ", -1)", Due.STATE, RICH, x -> x.sheet(0, bits, -1));
            add(36, "sheet(3, " + bits + ", LEAST)", Due.STATE, RICH, x -> x.sheet(3, bits, LEAST));
        }
        for (int i : new int[] {-1, 5, 23, 24, LEAST, MOST}) {
            beyond(37, "put(0, " + i + ", 1)", x -> x.put(0, i, 1));
            add(37, "NONE ahead of no such number, put(3, " + i + ", 1)", Due.NONE, RICH, x -> x.put(3, i, 1));
        }
        add(37, "it is missing", Due.NONE, FRESH, x -> x.put(0, 0, 1));
        for (int call : CALLS) {
            beyond(39, "sounds(0, " + call + ")", x -> x.sounds(0, call));
            beyond(39, "BEYOND ahead of NONE, sounds(3, " + call + ")", x -> x.sounds(3, call));
        }
        add(39, "no CALL at all", Due.BEYOND, FRESH, x -> x.sounds(0, 0));
        add(39, "it is missing", Due.NONE, RICH, x -> x.sounds(3, 0));
    }

    private void moves() {
        for (int sheet : SHEETS) {
            beyond(38, "move(" + sheet + ", 0, 0, 0, 1)", x -> x.move(sheet, 0, 0, 0, 1));
            beyond(38, "move(0, 0, " + sheet + ", 0, 1)", x -> x.move(0, 0, sheet, 0, 1));
            beyond(38, "no such SHEET ahead of NONE, move(3, 0, " + sheet + ", 0, 1)", x -> x.move(3, 0, sheet, 0, 1));
            beyond(38, "no such SHEET ahead of NONE, move(" + sheet + ", 0, 3, 0, 1)", x -> x.move(sheet, 0, 3, 0, 1));
        }
        add(38, "the first one is missing", Due.NONE, RICH, x -> x.move(3, 0, 0, 0, 1));
        add(38, "the other one is missing", Due.NONE, RICH, x -> x.move(0, 0, 3, 0, 1));
        add(38, "both are missing", Due.NONE, FRESH, x -> x.move(0, 0, 0, 0, 0));
        add(38, "NONE ahead of BEYOND of i", Due.NONE, RICH, x -> x.move(0, -1, 3, 0, 1));
        add(38, "unlike bits", Due.KIND, RICH, x -> x.move(0, 0, 2, 0, 1));
        add(38, "unlike bits", Due.KIND, RICH, x -> x.move(2, 0, 1, 0, 1));
        add(38, "unlike bits, none of them", Due.KIND, RICH, x -> x.move(2, 0, 1, 0, 0));
        add(38, "KIND ahead of BEYOND of i", Due.KIND, RICH, x -> x.move(0, -1, 2, 0, 1));
        add(38, "KIND ahead of BEYOND of j", Due.KIND, RICH, x -> x.move(0, 0, 2, 99, 1));
        add(38, "KIND ahead of BEYOND of n", Due.KIND, RICH, x -> x.move(0, 0, 2, 0, -1));
        // SHEET 0 has 5 numbers, SHEET 1 has 3: i, j, n.
        int[][] wrong = {{-1, 0, 1}, {0, -1, 1}, {0, 0, -1}, {LEAST, 0, 1}, {0, LEAST, 1}, {0, 0, LEAST}, {-1, 0, 0}, {0, -1, 0},
            {5, 0, 1}, {0, 3, 1}, {4, 0, 2}, {3, 0, 3}, {0, 2, 2}, {0, 0, 4}, {2, 1, 3}, {6, 0, 0}, {0, 4, 0}, {MOST, 0, 0},
            {0, MOST, 0}, {MOST, 0, 1}, {0, MOST, 1}, {0, 0, MOST}, {1, 1, MOST}, {MOST, MOST, MOST}, {LEAST, LEAST, LEAST}};
        for (int[] w : wrong) {
            beyond(38, "move(0, " + w[0] + ", 1, " + w[1] + ", " + w[2] + ")", x -> x.move(0, w[0], 1, w[1], w[2]));
        }
        beyond(38, "too many in the same one", x -> x.move(0, 0, 0, 1, 5));
        beyond(38, "too many in the same one", x -> x.move(0, 1, 0, 0, 5));
    }

    private void told() {
        add(41, "no IMAGE", Due.NONE, FRESH, x -> x.restore());
        add(42, "a 25th number", Due.FULL, FULL, x -> x.tell(1));
        // None wait then, too: the twin's have been checked.
        for (int call : CALLS) {
            addChanging(43, "check(" + call + ", 0)", Due.BEYOND, RICH, x -> x.check(call, 0), x -> x.check(0, 0));
        }
        for (int way : WAYS) {
            addChanging(43, "check(0, " + way + ")", Due.BEYOND, RICH, x -> x.check(0, way), x -> x.check(0, 0));
        }
        addChanging(43, "24 wait", Due.BEYOND, FULL, x -> x.check(12, 0), x -> x.check(0, 0));
        add(43, "none wait, no CALL at all", Due.BEYOND, FRESH, x -> x.check(0, 0));
        for (int what : new int[] {-1, 10, LEAST, MOST}) {
            beyond(44, "count(" + what + ")", x -> x.count(what));
        }
        for (int k : new int[] {-1, 0, 7, LEAST, MOST}) {
            beyond(45, "told(" + k + ")", x -> x.told(k));
        }
    }
}
