import java.util.ArrayList;
import java.util.Collections;
import java.util.HashSet;
import java.util.List;
import java.util.Set;

/**
 * The document once more, written with the Java library and by other ways than the class goes
 * (lists that are made anew, WAYS by their numbers, VOICES by Java's own inheritance), to be compared with it.
 */
final class Model {
    static final int[] ABOVE = {-1, 0, 1, 0, 0, 4, 1};

    /** What an IMAGE keeps. */
    static final class Kept {
        List<List<Integer>> calls = new ArrayList<>();
        List<int[]> rocks = new ArrayList<>();
        String tape = "";
        String[] texts = new String[2];
        List<int[]> echoes = new ArrayList<>();
        List<List<Integer>> log = new ArrayList<>();
        List<Integer> waiting = new ArrayList<>();
        int now = 0;
        int so = 0;
        int z = 1;

        Kept copy() {
            Kept k = new Kept();
            for (List<Integer> call : calls) {
                k.calls.add(new ArrayList<>(call));
            }
            for (int[] rock : rocks) {
                k.rocks.add(rock.clone());
            }
            k.tape = tape;
            k.texts = texts.clone();
            k.echoes.addAll(echoes);
            k.log.addAll(log);
            k.waiting.addAll(waiting);
            k.now = now;
            k.so = so;
            k.z = z;
            return k;
        }
    }

    /** An ERROR, on its way to the answer. */
    static final class Answer extends RuntimeException {
        private static final long serialVersionUID = 1L;
        final int error;

        Answer(int error) {
            super(null, null, false, false);
            this.error = error;
        }
    }

    Kept w = new Kept();
    Kept image = null;
    int images = 0;
    int[] told = new int[7];
    List<Integer> trace = new ArrayList<>();
    int[] sheetBits = new int[4];
    int[][] sheets = new int[4][];

    private static void must(boolean fits, int error) {
        if (!fits) {
            throw new Answer(error);
        }
    }

    private List<Integer> callOf(int call) {
        must(call >= 0 && call < w.calls.size(), 1);
        return w.calls.get(call);
    }

    private int[] rockOf(int rock) {
        must(rock >= 0 && rock < w.rocks.size(), 1);
        return w.rocks.get(rock);
    }

    private static void within(int v, int least, int most) {
        must(v >= least && v <= most, 1);
    }

    private static boolean isSound(int v) {
        return v >= 0 && v < 100 && (v < 54 || v > 59);
    }

    private static int contraryOf(int s) {
        if (s < 40) {
            return s % 2 == 0 ? s + 1 : s - 1;
        }
        if (s == 50 || s == 51) {
            return 101 - s;
        }
        return s > 60 ? 160 - s : s;
    }

    private static int at(List<Integer> row, int i) {
        must(i >= -1 && i < row.size(), 1);
        return i == -1 ? row.size() : row.get(i);
    }

    private List<Integer> wayOf(int way) {
        must(way >= 0 && way <= 9999, 1);
        List<Integer> rocks = new ArrayList<>();
        if (way > 0) {
            for (char digit : Integer.toString(way).toCharArray()) {
                must(digit > '0' && digit - '1' < w.rocks.size(), 1);
                rocks.add(digit - '1');
            }
        }
        return rocks;
    }

    private List<Integer> sent(int rock, List<Integer> row) {
        int[] r = w.rocks.get(rock);
        List<Integer> back = new ArrayList<>();
        if (r[0] == 4 || r[0] == 5) {
            List<Integer> turned = new ArrayList<>(row);
            Collections.reverse(turned);
            for (int p = 0; p < turned.size(); p++) {
                if (r[0] == 4 || p % (r[1] + 1) != r[1]) {
                    back.add(turned.get(p));
                }
            }
            return back;
        }
        for (int p = 0; p < row.size(); p++) {
            int s = row.get(p);
            boolean number = s >= 60;
            if (r[0] == 3 && number || (r[0] == 1 || r[0] == 6 || r[0] == 2 && p % 2 == 1) && !number) {
                s = contraryOf(s);
            }
            if (r[0] == 6 && w.texts[0] != null) {
                s = Texts.value(w.texts[0], "sinm", s, p, row.size(), r[1]);
                s = isSound(s) ? s : 60;
            }
            back.add(s);
        }
        return back;
    }

    private List<Integer> heardOver(List<Integer> row, List<Integer> way) {
        List<Integer> back = row;
        for (int rock : way) {
            back = sent(rock, back);
        }
        return back;
    }

    /** Null if the WAY can't be undone. */
    private List<Integer> needOver(List<Integer> row, List<Integer> way) {
        List<Integer> back = row;
        for (int i = way.size() - 1; i >= 0; i--) {
            if (w.rocks.get(way.get(i))[0] >= 5) {
                return null;
            }
            back = sent(way.get(i), back);
        }
        return back;
    }

    private List<List<Integer>> allWays(int k) {
        List<List<Integer>> all = new ArrayList<>();
        all.add(new ArrayList<>());
        for (int way = 1; way < Math.pow(10, k); way++) {
            try {
                all.add(wayOf(way));
            } catch (Answer none) {
                continue;
            }
        }
        return all;
    }

    private Set<List<Integer>> meanings(int call, int k) {
        Set<List<Integer>> rows = new HashSet<>();
        for (List<Integer> way : allWays(k)) {
            List<Integer> row = needOver(w.calls.get(call), way);
            if (row != null) {
                rows.add(row);
            }
        }
        return rows;
    }

    private int draw() {
        w.z = w.z * 1103515245 + 12345;
        return w.z >>> 8;
    }

    private void logRow(int call, int rock) {
        w.log.add(0, sent(rock, w.calls.get(call)));
        if (w.log.size() > 8) {
            w.log.remove(8);
        }
    }

    /** An act by its name; the answer, ERRORS counted. */
    int act(String name, long word, int... a) {
        try {
            return answer(name, word, a);
        } catch (Answer error) {
            told[error.error]++;
            return -1000000 - error.error;
        }
    }

    private int answer(String name, long word, int[] a) {
        switch (name) {
            case "call":
                must(w.calls.size() < 12, 4);
                w.calls.add(new ArrayList<>());
                return w.calls.size() - 1;
            case "sound": {
                List<Integer> row = callOf(a[0]);
                must(isSound(a[1]), 1);
                must(row.size() < 12, 4);
                row.add(a[1]);
                return row.size();
            }
            case "soundOf": return at(callOf(a[0]), a[1]);
            case "hush": {
                int had = callOf(a[0]).size();
                callOf(a[0]).clear();
                return had;
            }
            case "draw": {
                List<Integer> row = callOf(a[0]);
                within(a[1], 0, 12);
                row.clear();
                int own = 0;
                for (int i = 0; i < a[1]; i++) {
                    int s = draw() % 100;
                    s = isSound(s) ? s : 60;
                    row.add(s);
                    own += contraryOf(s) == s ? 1 : 0;
                }
                return own;
            }
            case "contrary":
                must(isSound(a[0]), 1);
                return contraryOf(a[0]);
            case "rock":
                within(a[0], 0, 69);
                within(a[1], 0, 20);
                must(w.rocks.size() < 8, 4);
                w.rocks.add(new int[] {a[0] / 10, a[0] % 10, a[1]});
                return w.rocks.size() - 1;
            case "rockIs":
                rockOf(a[0]);
                within(a[1], 0, 2);
                return rockOf(a[0])[a[1]];
            case "as":
                rockOf(a[0]);
                within(a[1], 0, 6);
                for (int kind = rockOf(a[0])[0]; kind >= 0; kind = ABOVE[kind]) {
                    if (kind == a[1]) {
                        return rockOf(a[0])[2];
                    }
                }
                throw new Answer(5);
            case "set": {
                int[] rock = rockOf(a[0]);
                within(a[1], 0, 2);
                within(a[2], 0, new int[] {6, 9, 20}[a[1]]);
                int was = rock[a[1]];
                rock[a[1]] = a[2];
                return was;
            }
            default: return textsAndBack(name, word, a);
        }
    }

    private int textsAndBack(String name, long word, int[] a) {
        switch (name) {
            case "feed":
                within(a[0], 1, 8);
                must(w.tape.length() + a[0] <= 60, 4);
                for (int i = 0; i < a[0]; i++) {
                    w.tape += (char) (word >> 8 * i & 0xff);
                }
                return w.tape.length();
            case "text": {
                within(a[0], 0, 1);
                int fault = Texts.fault(w.tape, a[0] == 0 ? "sinm" : "ohbt");
                if (fault < 0) {
                    w.texts[a[0]] = w.tape;
                }
                w.tape = "";
                return fault < 0 ? 1 : -10 - fault;
            }
            case "untell": {
                within(a[0], 0, 1);
                int was = w.texts[a[0]] == null ? 0 : 1;
                w.texts[a[0]] = null;
                return was;
            }
            case "heard": return at(heardOver(callOf(a[0]), wayOf(a[1])), a[2]);
            case "self": return heardOver(callOf(a[0]), wayOf(a[1])).equals(callOf(a[0])) ? 1 : 0;
            case "takes": return wayOf(a[0]).stream().mapToInt(rock -> w.rocks.get(rock)[2]).sum();
            case "echo": {
                callOf(a[2]);
                w.calls.set(a[2], new ArrayList<>(heardOver(callOf(a[0]), wayOf(a[1]))));
                return callOf(a[2]).size();
            }
            case "which": {
                int bits = 0;
                callOf(a[0]);
                callOf(a[1]);
                for (int r = 0; r < w.rocks.size(); r++) {
                    bits += sent(r, callOf(a[1])).equals(callOf(a[0])) ? 1 << r : 0;
                }
                return bits;
            }
            case "ways": {
                callOf(a[0]);
                callOf(a[1]);
                within(a[2], 0, 3);
                return (int) allWays(a[2]).stream().filter(way -> heardOver(callOf(a[0]), way).equals(callOf(a[1]))).count();
            }
            case "need": {
                callOf(a[0]);
                must(a[2] >= -1, 1);
                List<Integer> row = needOver(callOf(a[0]), wayOf(a[1]));
                must(row != null, 3);
                return at(row, a[2]);
            }
            case "meant":
                callOf(a[0]);
                within(a[1], 0, 2);
                return meanings(a[0], a[1]).size();
            case "place": return placeOf(a[0], a[1], a[2]);
            case "safe":
                callOf(a[0]);
                within(a[1], 0, 1);
                return a[1] == 0 ? answer("which", 0, new int[] {a[0], a[0]})
                    : (int) callOf(a[0]).stream().filter(s -> contraryOf(s) != s).count();
            case "part": {
                List<Integer> one = heardOver(callOf(a[0]), wayOf(a[1]));
                List<Integer> other = heardOver(callOf(a[0]), wayOf(a[2]));
                must(!one.equals(other), 2);
                return firstUnlike(one, other);
            }
            default: return saysAndSeconds(name, a);
        }
    }

    private static int firstUnlike(List<Integer> one, List<Integer> other) {
        for (int i = 0;; i++) {
            if (i >= one.size() || i >= other.size() || !one.get(i).equals(other.get(i))) {
                return i;
            }
        }
    }

    private int placeOf(int call, int k, int what) {
        callOf(call);
        within(k, 0, 2);
        within(what, 0, 1);
        int best = 0;
        int most = 0;
        for (int p = 0; p < 12; p++) {
            Set<Integer> sounds = new HashSet<>();
            for (List<Integer> row : meanings(call, k)) {
                if (p < row.size()) {
                    sounds.add(row.get(p));
                }
            }
            if (sounds.size() > most) {
                most = sounds.size();
                best = p;
            }
        }
        return what == 0 ? best : most;
    }

    private int saysAndSeconds(String name, int[] a) {
        switch (name) {
            case "reads": {
                int fault = new Says(callOf(a[0]), 0).fault();
                return fault < 0 ? 1 : -10 - fault;
            }
            case "so": {
                within(a[0], 0, (1 << 20) - 1);
                int was = w.so;
                w.so = a[0];
                return was;
            }
            case "says": {
                List<Integer> row = heardOver(callOf(a[0]), wayOf(a[1]));
                must(new Says(row, w.so).fault() < 0, 2);
                return new Says(row, w.so).value() ? 1 : 0;
            }
            case "shout": {
                callOf(a[0]);
                int time = w.now + rockOf(a[1])[2];
                must(w.echoes.size() < 10, 4);
                w.echoes.add(new int[] {a[0], a[1], time});
                arrive();
                return time;
            }
            case "seconds":
                within(a[0], 1, 60);
                must(w.now + a[0] <= 9999, 3);
                for (int i = 0; i < a[0]; i++) {
                    w.now++;
                    arrive();
                }
                return w.now;
            case "log":
                must(a[0] >= 0 && a[0] < w.log.size(), 2);
                return at(w.log.get(a[0]), a[1]);
            case "bargain": return bargain(a);
            case "seed": {
                int was = w.z;
                w.z = a[0];
                return was;
            }
            default: return theRest(name, a);
        }
    }

    private void arrive() {
        for (int[] echo : new ArrayList<>(w.echoes)) {
            if (echo[2] == w.now) {
                w.echoes.remove(echo);
                logRow(echo[0], echo[1]);
            }
        }
    }

    private int bargain(int[] a) {
        within(a[0], 0, 3939);
        within(a[0] % 100, 0, 39);
        List<List<Integer>> ways = List.of(wayOf(a[1]), wayOf(a[2]));
        within(a[3], 1, 60);
        within(a[4], 0, 3);
        int[] offer = {a[0] / 100 - 20, a[0] % 100 - 20};
        int[] heard = offer.clone();
        int closed = -1;
        int odd = -1;
        for (int t = 0; t < a[3] && closed < 0; t++) {
            for (int who = 0; who < 2; who++) {
                List<Integer> comes = heardOver(List.of(offer[who] + 80), ways.get(who));
                if (!comes.isEmpty() && comes.get(0) >= 60) {
                    heard[1 - who] = comes.get(0) - 80;
                }
            }
            boolean buyer = offer[1] >= heard[1];
            boolean seller = heard[0] >= offer[0];
            odd = odd < 0 && buyer != seller ? t : odd;
            if (buyer && seller) {
                closed = t;
                break;
            }
            for (int who = 0; who < 2; who++) {
                int next = w.texts[1] == null ? offer[who] + who * 2 - 1
                    : Texts.value(w.texts[1], "ohbt", offer[who], heard[who], who, t);
                offer[who] = next < -20 ? -20 : next > 19 ? 19 : next;
            }
        }
        int answer = new int[] {closed, odd, offer[0], offer[1]}[a[4]];
        must(a[4] >= 2 || answer >= 0, 2);
        return answer;
    }

    private int theRest(String name, int[] a) {
        switch (name) {
            case "voice": {
                int[] rock = rockOf(a[0]);
                within(a[1], 0, 3);
                trace = new ArrayList<>();
                try {
                    return Voices.of(rock[0], rock[1], a[0], trace).voice(a[1], a[2]);
                } catch (ArithmeticException parted) {
                    throw new Answer(6);
                }
            }
            case "body":
                must(a[0] >= 0 && a[0] < trace.size() && a[0] < 30, 2);
                return trace.get(a[0]);
            case "sheet":
                within(a[0], 0, 3);
                must(a[1] == 0 || a[1] == 8 || a[1] == 16 || a[1] == 32, 1);
                must(a[1] == 0 || a[2] >= 0, 3);
                must(a[1] == 0 || a[2] <= 24, 1);
                sheetBits[a[0]] = a[1];
                sheets[a[0]] = a[1] == 0 ? null : new int[a[2]];
                return 1;
            case "put": {
                within(a[0], 0, 3);
                must(sheets[a[0]] != null, 2);
                within(a[1], 0, sheets[a[0]].length - 1);
                long mask = (1L << sheetBits[a[0]]) - 1;
                sheets[a[0]][a[1]] = (int) (a[2] & mask);
                return 1;
            }
            case "move": {
                within(a[0], 0, 3);
                within(a[2], 0, 3);
                must(sheets[a[0]] != null && sheets[a[2]] != null, 2);
                must(sheetBits[a[0]] == sheetBits[a[2]], 5);
                must(a[1] >= 0 && a[3] >= 0 && a[4] >= 0, 1);
                must((long) a[1] + a[4] <= sheets[a[0]].length && (long) a[3] + a[4] <= sheets[a[2]].length, 1);
                int[] were = sheets[a[0]].clone();
                for (int i = 0; i < a[4]; i++) {
                    sheets[a[2]][a[3] + i] = were[a[1] + i];
                }
                return a[4];
            }
            case "sounds": {
                within(a[0], 0, 3);
                List<Integer> row = callOf(a[1]);
                must(sheets[a[0]] != null, 2);
                row.clear();
                for (int v : sheets[a[0]]) {
                    if (!isSound(v) || row.size() == 12) {
                        break;
                    }
                    row.add(v);
                }
                return row.size();
            }
            default: return toldOnes(name, a);
        }
    }

    private int toldOnes(String name, int[] a) {
        switch (name) {
            case "image":
                image = w.copy();
                return ++images;
            case "restore":
                must(image != null, 2);
                w = image.copy();
                return w.now;
            case "tell":
                must(w.waiting.size() < 24, 4);
                w.waiting.add(a[0]);
                return w.waiting.size();
            case "check": {
                List<Integer> waited = w.waiting;
                w.waiting = new ArrayList<>();
                List<Integer> row = heardOver(callOf(a[0]), wayOf(a[1]));
                return row.equals(waited) ? 0 : 1 + firstUnlike(row, waited);
            }
            case "count": {
                int[] counts = {w.calls.size(), w.rocks.size(), w.now, w.echoes.size(), w.log.size(), w.so,
                    w.tape.length(), w.waiting.size(), Math.min(30, trace.size()), w.z};
                within(a[0], 0, 9);
                return counts[a[0]];
            }
            case "told":
                within(a[0], 1, 6);
                return told[a[0]];
            default: throw new IllegalStateException(name);
        }
    }

    /** TEXTS: a FAULT by what may come next, a value by cutting the text where it is joined last. */
    static final class Texts {
        private Texts() {
        }

        static int fault(String text, String names) {
            List<Character> open = new ArrayList<>();
            List<Boolean> compared = new ArrayList<>(List.of(false));
            boolean operandDue = true;
            int digits = 0;
            for (int i = 0; i < text.length(); i++) {
                char c = text.charAt(i);
                int level = compared.size() - 1;
                if (c >= '0' && c <= '9') {
                    if (!operandDue && (digits == 0 || digits == 4)) {
                        return i;
                    }
                    digits++;
                } else if (operandDue && names.indexOf(c) < 0) {
                    if (c != '!' && c != '(' || open.size() == 5) {
                        return i;
                    }
                    open.add(c);
                    if (c == '(') {
                        compared.add(false);
                    }
                    continue;
                } else if (!operandDue) {
                    digits = 0;
                    boolean compares = "<=>".indexOf(c) >= 0;
                    if ("+-*/%<=>&|)".indexOf(c) < 0 || compares && compared.get(level) || c == ')' && level == 0) {
                        return i;
                    }
                    if (c != ')') {
                        compared.set(level, compares || "&|".indexOf(c) < 0 && compared.get(level));
                        operandDue = true;
                        continue;
                    }
                    compared.remove(level);
                    open.remove(open.size() - 1);
                }
                operandDue = false;
                while (!open.isEmpty() && open.get(open.size() - 1) == '!') {
                    open.remove(open.size() - 1);
                }
            }
            return operandDue || compared.size() > 1 ? text.length() : -1;
        }

        static int value(String t, String names, int... values) {
            for (String signs : new String[] {"|", "&", "<=>", "+-", "*/%"}) {
                int depth = 0;
                for (int i = t.length() - 1; i >= 0; i--) {
                    char c = t.charAt(i);
                    depth += c == ')' ? 1 : c == '(' ? -1 : 0;
                    if (depth == 0 && signs.indexOf(c) >= 0) {
                        return join(c, value(t.substring(0, i), names, values), value(t.substring(i + 1), names, values));
                    }
                }
            }
            char first = t.charAt(0);
            if (first == '!') {
                return value(t.substring(1), names, values) == 0 ? 1 : 0;
            }
            if (first == '(') {
                return value(t.substring(1, t.length() - 1), names, values);
            }
            return names.indexOf(first) >= 0 ? values[names.indexOf(first)] : Integer.parseInt(t);
        }

        private static int join(char c, int a, int b) {
            switch (c) {
                case '|': return a != 0 || b != 0 ? 1 : 0;
                case '&': return a != 0 && b != 0 ? 1 : 0;
                case '<': return a < b ? 1 : 0;
                case '=': return a == b ? 1 : 0;
                case '>': return a > b ? 1 : 0;
                case '+': return a + b;
                case '-': return a - b;
                case '*': return a * b;
                case '/': return b == 0 ? 0 : a / b;
                default: return b == 0 ? 0 : a % b;
            }
        }
    }

    /** The GRAMMAR, read by its own rules. */
    static final class Says {
        private final List<Integer> row;
        private final int so;
        private int at = 0;

        Says(List<Integer> row, int so) {
            this.row = row;
            this.so = so;
        }

        int fault() {
            try {
                value();
                return -1;
            } catch (Answer stopped) {
                return at;
            }
        }

        boolean value() {
            boolean or = false;
            boolean and = term();
            while (at < row.size()) {
                int joining = row.get(at);
                must(joining == 50 || joining == 51, 1);
                at++;
                boolean t = term();
                if (joining == 51) {
                    or |= and;
                    and = t;
                } else {
                    and &= t;
                }
            }
            return or | and;
        }

        private boolean term() {
            must(at < row.size(), 1);
            int s = row.get(at);
            must(s < 50 || s == 52 || s == 53, 1);
            at++;
            if (s == 53) {
                return !term();
            }
            if (s == 52) {
                boolean first = term();
                return term() | !first;
            }
            int sum = 0;
            while (at < row.size() && row.get(at) >= 60) {
                sum += row.get(at++) - 80;
            }
            boolean word = s >= 40 || (so >> s / 2 & 1) != s % 2;
            return word && sum >= 0;
        }
    }

    /** VOICES by Java's own inheritance. */
    static class Voices {
        int m;
        int k;
        List<Integer> trace;

        static Voices of(int kind, int m, int k, List<Integer> trace) {
            Voices v = kind == 0 ? new Voices() : kind == 1 ? new Nay() : kind == 2 ? new Second() : kind == 3 ? new Less()
                : kind == 4 ? new Back() : kind == 5 ? new Swallow() : new Told();
            v.m = m;
            v.k = k;
            v.trace = trace;
            return v;
        }

        int voice(int voice, int x) {
            return voice == 0 ? turns(x) : voice == 1 ? sends(x) : voice == 2 ? keeps(x) : waits(x);
        }

        void began(int body) {
            trace.add(body);
        }

        int turns(int x) {
            began(10);
            return x + k;
        }

        int sends(int x) {
            began(11);
            return turns(x) * 2;
        }

        int keeps(int x) {
            began(12);
            return sends(x) - m;
        }

        int waits(int x) {
            began(13);
            return x / (m - k);
        }
    }

    static class Nay extends Voices {
        @Override
        int turns(int x) {
            began(20);
            return super.turns(x) - 5;
        }

        @Override
        int waits(int x) {
            began(21);
            return super.waits(x) + sends(1);
        }
    }

    static final class Second extends Nay {
        @Override
        int sends(int x) {
            began(30);
            return 0 - super.sends(x);
        }
    }

    static final class Less extends Voices {
        @Override
        int keeps(int x) {
            began(40);
            return super.keeps(x / 2);
        }
    }

    static class Back extends Voices {
        @Override
        int turns(int x) {
            began(50);
            return super.turns(x) * 3;
        }

        @Override
        int keeps(int x) {
            began(51);
            return super.keeps(x) ^ k;
        }
    }

    static final class Swallow extends Back {
        @Override
        int sends(int x) {
            began(60);
            return super.sends(x + 1);
        }
    }

    static final class Told extends Nay {
        @Override
        int turns(int x) {
            began(70);
            return 9;
        }

        @Override
        int waits(int x) {
            began(71);
            return super.waits(x) - keeps(0);
        }
    }
}
