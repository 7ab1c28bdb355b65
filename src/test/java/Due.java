/** What is due, and what came; a test ends with exit code 1 if one answer was wrong. */
final class Due {
    static final int BEYOND = -1000001;
    static final int NONE = -1000002;
    static final int STATE = -1000003;
    static final int FULL = -1000004;
    static final int KIND = -1000005;
    static final int PARTED = -1000006;

    private static int wrong = 0;
    private static int asked = 0;
    private static String about = "";

    private Due() {
    }

    static void is(int promise, String what, long got, long want) {
        asked++;
        if (got != want) {
            wrong++;
            String where = about.isEmpty() ? "promise " + promise : about;
            System.out.println(where + ": " + what + " answered " + got + ", due is " + want);
        }
    }

    /** What comes is about this sentence of the document. */
    static void about(String sentence) {
        about = sentence;
    }

    static void is(String what, long got, long want) {
        is(0, what, got, want);
    }

    static int asked() {
        return asked;
    }

    static void end() {
        System.out.println(asked + " answers, " + wrong + " not as due");
        if (wrong != 0) {
            System.exit(1);
        }
    }

    /** A new CALL of these SOUNDS: its number. */
    static int call(GorgeRocks x, int... sounds) {
        int call = x.call();
        for (int sound : sounds) {
            x.sound(call, sound);
        }
        return call;
    }

    /** A CALL's row becomes these SOUNDS. */
    static void say(GorgeRocks x, int call, int... sounds) {
        x.hush(call);
        for (int sound : sounds) {
            x.sound(call, sound);
        }
    }

    /** Bytes come to THE TAPE, eight by eight, so that few calls do. */
    static void feed(GorgeRocks x, String bytes) {
        for (int i = 0; i < bytes.length(); i += 8) {
            int n = Math.min(8, bytes.length() - i);
            long word = 0;
            for (int k = 0; k < n; k++) {
                word |= (long) bytes.charAt(i + k) << 8 * k;
            }
            x.feed(word, n);
        }
    }

    static int text(GorgeRocks x, int use, String text) {
        feed(x, text);
        return x.text(use);
    }

    /** All of a row as HEARD is asked for, with its length and the place behind it. */
    static void heard(int promise, GorgeRocks x, int call, int way, int... row) {
        is(promise, "heard(" + call + ", " + way + ", -1)", x.heard(call, way, -1), row.length);
        for (int i = 0; i < row.length; i++) {
            is(promise, "heard(" + call + ", " + way + ", " + i + ")", x.heard(call, way, i), row[i]);
        }
        is(promise, "heard behind the end", x.heard(call, way, row.length), BEYOND);
    }

    static void needed(int promise, GorgeRocks x, int call, int way, int... row) {
        is(promise, "need(" + call + ", " + way + ", -1)", x.need(call, way, -1), row.length);
        for (int i = 0; i < row.length; i++) {
            is(promise, "need(" + call + ", " + way + ", " + i + ")", x.need(call, way, i), row[i]);
        }
    }

    static void row(int promise, GorgeRocks x, int call, int... row) {
        is(promise, "soundOf(" + call + ", -1)", x.soundOf(call, -1), row.length);
        for (int i = 0; i < row.length; i++) {
            is(promise, "soundOf(" + call + ", " + i + ")", x.soundOf(call, i), row[i]);
        }
    }

    static void logged(int promise, GorgeRocks x, int k, int... row) {
        is(promise, "log(" + k + ", -1)", x.log(k, -1), row.length);
        for (int i = 0; i < row.length; i++) {
            is(promise, "log(" + k + ", " + i + ")", x.log(k, i), row[i]);
        }
    }
}
