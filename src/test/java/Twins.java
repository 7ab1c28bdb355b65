import java.util.ArrayList;
import java.util.List;

/**
 * Two objects that were made alike: one has had a call refused. But for told() both must answer alike
 * whatever is asked of them, so all that an object holds is looked at, twice: as it is, and as its IMAGE has it.
 */
final class Twins {
    interface Act {
        int on(GorgeRocks x);
    }

    private Twins() {
    }

    static void refused(int promise, String what, int error, Scenes.Scene scene, Act act) {
        refused(promise, what, error, scene, act, null);
    }

    /** Where the document tells that something changes, the twin does the same by a call that is not refused. */
    static void refused(int promise, String what, int error, Scenes.Scene scene, Act act, Act ofTwin) {
        GorgeRocks x = scene.make();
        GorgeRocks twin = scene.make();
        Due.is(promise, what, act.on(x), error);
        if (ofTwin != null) {
            Due.is(promise, "the twin of " + what, ofTwin.on(twin) >= 0 ? 1 : 0, 1);
        }
        for (int k = 1; k <= 6; k++) {
            Due.is(promise, "told(" + k + ") behind " + what, x.told(k), twin.told(k) + (error == -1000000 - k ? 1 : 0));
        }
        alike(promise, what, x, twin);
    }

    static void alike(int promise, String what, GorgeRocks x, GorgeRocks twin) {
        List<String> names = new ArrayList<>();
        List<Integer> seen = new Look(x, names).all();
        List<Integer> due = new Look(twin, new ArrayList<>()).all();
        for (int i = 0; i < seen.size() && i < due.size(); i++) {
            if (!seen.get(i).equals(due.get(i))) {
                Due.is(promise, names.get(i) + " behind " + what, seen.get(i), due.get(i));
                return;
            }
        }
        Due.is(promise, "answers behind " + what, seen.size(), due.size());
    }

    /** All that an object holds, as far as its face tells it. */
    private static final class Look {
        private final GorgeRocks x;
        private final List<String> names;
        private final List<Integer> seen = new ArrayList<>();

        Look(GorgeRocks x, List<String> names) {
            this.x = x;
            this.names = names;
        }

        List<Integer> all() {
            trace();
            world();
            sheets();
            if (add("restore()", x.restore()) >= 0) {
                world();
            }
            add("image()", x.image());
            if (seen.size() > 400) {
                throw new IllegalStateException("more calls than an object is used for: " + seen.size());
            }
            return seen;
        }

        private int add(String name, int answer) {
            names.add(name);
            seen.add(answer);
            return answer;
        }

        private int count(int what) {
            return add("count(" + what + ")", x.count(what));
        }

        private void world() {
            int calls = count(0);
            int rocks = count(1);
            int rows = count(4);
            for (int what : new int[] {2, 5, 6, 7, 9}) {
                count(what);
            }
            for (int rock = 0; rock < rocks; rock++) {
                for (int what = 0; what < 3; what++) {
                    add("rockIs(" + rock + ", " + what + ")", x.rockIs(rock, what));
                }
            }
            for (int call = 0; call < calls; call++) {
                row("CALL " + call, call);
            }
            for (int k = 0; k < rows; k++) {
                logged(k);
            }
            if (calls > 0) {
                // In each scene the row of this CALL is like the numbers that wait.
                add("check", x.check(calls == Scenes.RICH_CALLS ? 1 : 0, 0));
            }
            texts();
            echoes();
        }

        private void row(String name, int call) {
            int n = add(name + " has", x.soundOf(call, -1));
            for (int i = 0; i < n; i++) {
                add(name + ", SOUND " + i, x.soundOf(call, i));
            }
        }

        private void logged(int k) {
            int n = add("log(" + k + ", -1)", x.log(k, -1));
            if (n > 0) {
                add("log(" + k + ", 0)", x.log(k, 0));
                add("log(" + k + ", last)", x.log(k, n - 1));
            }
        }

        /** The TEXTS that are told, then the one that THE TAPE has. */
        private void texts() {
            int told = x.rock(67, 0);
            int way = told < 0 ? 7 : told + 1;
            add("TURNS", x.heard(0, way, 0));
            add("OFFERS", x.bargain(3010, 0, 0, 2, 2));
            add("OFFERS", x.bargain(3010, 0, 0, 2, 3));
            add("text(0)", x.text(0));
            add("TURNS of THE TAPE", x.heard(0, way, 0));
            add("untell(0)", x.untell(0));
            add("untell(1)", x.untell(1));
        }

        private void echoes() {
            int left = count(3);
            for (int i = 0; i < 20 && left > 0; i++) {
                add("seconds(1)", x.seconds(1));
                int now = count(3);
                if (now != left) {
                    logged(0);
                }
                left = now;
            }
        }

        private void trace() {
            int n = add("count(8)", x.count(8));
            for (int i = 0; i < n; i++) {
                add("body(" + i + ")", x.body(i));
            }
        }

        private void sheets() {
            int calls = count(0);
            for (int sheet = 0; sheet < 4; sheet++) {
                int size = 0;
                while (size <= 24 && x.move(sheet, size, sheet, size, 0) == 0) {
                    size++;
                }
                add("SHEET " + sheet + " has less than", size);
                add("bits of SHEETS " + sheet + ", 2", x.move(sheet, 0, 2, 0, 0));
                if (calls > 0) {
                    add("sounds(" + sheet + ", 0)", x.sounds(sheet, 0));
                    row("SHEET " + sheet, 0);
                }
            }
        }
    }
}
