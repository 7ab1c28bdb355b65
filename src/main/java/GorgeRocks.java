/**
 * The rock that says no: calls over a gorge, and what rocks send back of them.
 * The document (DOC.md) says what each act answers; words in capitals are the document's.
 */
public final class GorgeRocks {

    private static final int LOW = -1000000;
    private static final int BEYOND = 1;
    private static final int NONE = 2;
    private static final int STATE = 3;
    private static final int FULL = 4;
    private static final int UNLIKE_KIND = 5;
    private static final int PARTED = 6;
    private static final int ERRORS = 6;

    private static final int CALLS_MOST = 12;
    private static final int ROW_MOST = 12;
    private static final int ROCKS_MOST = 8;
    private static final int WAY_MOST = 4;
    private static final int M_MOST = 9;
    private static final int DELAY_MOST = 20;
    private static final int TAPE_MOST = 60;
    private static final int OPEN_MOST = 5;
    private static final int DIGITS_MOST = 4;
    private static final int USES = 2;
    private static final int ECHOES_MOST = 10;
    private static final int LOG_MOST = 8;
    private static final int NOW_MOST = 9999;
    private static final int SECONDS_MOST = 60;
    private static final int TURNS_MOST = 60;
    private static final int WAITING_MOST = 24;
    private static final int TRACE_MOST = 30;
    private static final int SHEETS = 4;
    private static final int SHEET_MOST = 24;
    private static final int TRUTH_MOST = 1048575;
    private static final int WAYS_K_MOST = 3;
    private static final int MEANT_K_MOST = 2;
    /** One row for no ROCK, 8 for one, 64 for two. */
    private static final int MEANINGS_MOST = 73;

    private static final int FIRST_PLAIN = 40;
    private static final int AND = 50;
    private static final int OR = 51;
    private static final int IF = 52;
    private static final int NOT = 53;
    private static final int FIRST_NUMBER = 60;
    private static final int ZERO = 80;
    private static final int LAST_NUMBER = 99;
    private static final int OFFER_LEAST = -20;
    private static final int OFFER_MOST = 19;
    private static final int OFFERS_TOLD = 40;

    private static final int ROCK = 0;
    private static final int NAY = 1;
    private static final int SECOND = 2;
    private static final int LESS = 3;
    private static final int BACK = 4;
    private static final int SWALLOW = 5;
    private static final int TOLD = 6;
    private static final int KINDS = 7;
    /** The KIND above each KIND; -1 above ROCK. */
    private static final int[] ABOVE = {-1, ROCK, NAY, ROCK, ROCK, BACK, NAY};

    private static final int TURNS_USE = 0;
    private static final int OFFERS_USE = 1;
    private static final String TURNS_NAMES = "sinm";
    private static final String OFFERS_NAMES = "ohbt";
    private static final int NAMES = 4;

    private static final int VOICES = 4;

    private final World world = new World();
    private final World kept = new World();
    private final Reader reader = new Reader();
    private final Grammar grammar = new Grammar();
    private final Meanings meanings = new Meanings();
    private final Deal deal = new Deal();
    private final Speaker speaker = new Speaker();
    private final Sheet[] sheets = new Sheet[SHEETS];
    private final Row firstWay = new Row(WAY_MOST);
    private final Row secondWay = new Row(WAY_MOST);
    private final Row firstRow = new Row(ROW_MOST);
    private final Row secondRow = new Row(ROW_MOST);
    /** The rows that stand between the ROCKS while WAYS are tried, one for each ROCK that is left. */
    private final Row[] between = new Row[WAYS_K_MOST];
    private final int[] errorCounts = new int[ERRORS + 1];
    private int imageCount = 0;

    public GorgeRocks() {
        for (int i = 0; i < sheets.length; i++) {
            sheets[i] = new Sheet();
        }
        for (int i = 0; i < between.length; i++) {
            between[i] = new Row(ROW_MOST);
        }
    }

    // ---- calls, rocks

    public int call() {
        if (world.callCount >= CALLS_MOST) {
            return error(FULL);
        }
        world.calls[world.callCount].clear();
        world.callCount++;
        return world.callCount - 1;
    }

    public int sound(int call, int sound) {
        if (!isCall(call) || !isSound(sound)) {
            return error(BEYOND);
        }
        Row row = world.calls[call];
        if (!row.add(sound)) {
            return error(FULL);
        }
        return row.size;
    }

    public int soundOf(int call, int i) {
        if (!isCall(call)) {
            return error(BEYOND);
        }
        return soundOrSize(world.calls[call], i);
    }

    public int hush(int call) {
        if (!isCall(call)) {
            return error(BEYOND);
        }
        Row row = world.calls[call];
        int had = row.size;
        row.clear();
        return had;
    }

    public int draw(int call, int n) {
        if (!isCall(call) || n < 0 || n > ROW_MOST) {
            return error(BEYOND);
        }
        Row row = world.calls[call];
        row.clear();
        for (int i = 0; i < n; i++) {
            row.add(soundOr60(world.nextDraw() % 100));
        }
        return n - row.unsafeSounds();
    }

    public int contrary(int sound) {
        if (!isSound(sound)) {
            return error(BEYOND);
        }
        return contraryOf(sound);
    }

    public int rock(int km, int delay) {
        if (km < 0 || km >= KINDS * 10 || !isDelay(delay)) {
            return error(BEYOND);
        }
        if (world.rockCount >= ROCKS_MOST) {
            return error(FULL);
        }
        Rock made = world.rocks[world.rockCount];
        made.kind = km / 10;
        made.m = km % 10;
        made.delay = delay;
        world.rockCount++;
        return world.rockCount - 1;
    }

    public int rockIs(int rock, int what) {
        if (!isRock(rock) || what < 0 || what > 2) {
            return error(BEYOND);
        }
        return world.rocks[rock].tells(what);
    }

    public int as(int rock, int kind) {
        if (!isRock(rock) || !isKind(kind)) {
            return error(BEYOND);
        }
        if (!isUnder(world.rocks[rock].kind, kind)) {
            return error(UNLIKE_KIND);
        }
        return world.rocks[rock].delay;
    }

    public int set(int rock, int what, int v) {
        if (!isRock(rock) || !mayBecome(what, v)) {
            return error(BEYOND);
        }
        Rock changed = world.rocks[rock];
        int was = changed.tells(what);
        changed.become(what, v);
        return was;
    }

    // ---- texts

    public int feed(long word, int n) {
        if (n < 1 || n > 8) {
            return error(BEYOND);
        }
        if (world.tape.size + n > TAPE_MOST) {
            return error(FULL);
        }
        for (int i = 0; i < n; i++) {
            world.tape.add((int) (word >>> (8 * i)) & 255);
        }
        return world.tape.size;
    }

    public int text(int use) {
        if (!isUse(use)) {
            return error(BEYOND);
        }
        int fault = reader.faultOf(world.tape, use == TURNS_USE ? TURNS_NAMES : OFFERS_NAMES);
        world.tape.clear();
        if (fault >= 0) {
            return -10 - fault;
        }
        world.texts[use].code.copyFrom(reader.draft);
        return 1;
    }

    public int untell(int use) {
        if (!isUse(use)) {
            return error(BEYOND);
        }
        int was = world.texts[use].isThere() ? 1 : 0;
        world.texts[use].code.clear();
        return was;
    }

    // ---- what comes back

    public int heard(int call, int way, int i) {
        if (!isCall(call) || !world.readWay(way, firstWay)) {
            return error(BEYOND);
        }
        world.hear(world.calls[call], firstWay, firstRow);
        return soundOrSize(firstRow, i);
    }

    public int self(int call, int way) {
        if (!isCall(call) || !world.readWay(way, firstWay)) {
            return error(BEYOND);
        }
        world.hear(world.calls[call], firstWay, firstRow);
        return firstRow.isLike(world.calls[call]) ? 1 : 0;
    }

    public int takes(int way) {
        if (!world.readWay(way, firstWay)) {
            return error(BEYOND);
        }
        int sum = 0;
        for (int i = 0; i < firstWay.size; i++) {
            sum += world.rocks[firstWay.items[i]].delay;
        }
        return sum;
    }

    public int echo(int call, int way, int into) {
        if (!isCall(call) || !isCall(into) || !world.readWay(way, firstWay)) {
            return error(BEYOND);
        }
        world.hear(world.calls[call], firstWay, firstRow);
        world.calls[into].copyFrom(firstRow);
        return firstRow.size;
    }

    public int which(int one, int other) {
        if (!isCall(one) || !isCall(other)) {
            return error(BEYOND);
        }
        return rocksThatMake(world.calls[one], world.calls[other]);
    }

    public int ways(int one, int other, int k) {
        if (!isCall(one) || !isCall(other) || k < 0 || k > WAYS_K_MOST) {
            return error(BEYOND);
        }
        return waysTo(world.calls[one], world.calls[other], k);
    }

    public int need(int call, int way, int i) {
        if (!isCall(call) || !world.readWay(way, firstWay) || i < -1) {
            return error(BEYOND);
        }
        firstRow.copyFrom(world.calls[call]);
        for (int k = firstWay.size - 1; k >= 0; k--) {
            Rock rock = world.rocks[firstWay.items[k]];
            if (!rock.canBeUndone()) {
                return error(STATE);
            }
            world.sendBack(rock, firstRow);
        }
        return soundOrSize(firstRow, i);
    }

    public int meant(int call, int k) {
        if (!isCall(call) || k < 0 || k > MEANT_K_MOST) {
            return error(BEYOND);
        }
        meanings.gather(world, world.calls[call], k);
        return meanings.size;
    }

    public int place(int call, int k, int what) {
        if (!isCall(call) || k < 0 || k > MEANT_K_MOST || what < 0 || what > 1) {
            return error(BEYOND);
        }
        meanings.gather(world, world.calls[call], k);
        int best = meanings.placeOfMost();
        return what == 0 ? best : meanings.unlikeAt(best);
    }

    public int safe(int call, int what) {
        if (!isCall(call) || what < 0 || what > 1) {
            return error(BEYOND);
        }
        Row row = world.calls[call];
        return what == 0 ? rocksThatMake(row, row) : row.unsafeSounds();
    }

    public int part(int call, int one, int other) {
        if (!isCall(call) || !world.readWay(one, firstWay)
                || !world.readWay(other, secondWay)) {
            return error(BEYOND);
        }
        world.hear(world.calls[call], firstWay, firstRow);
        world.hear(world.calls[call], secondWay, secondRow);
        int first = firstRow.firstUnlike(secondRow);
        return first < 0 ? error(NONE) : first;
    }

    // ---- what it says

    public int reads(int call) {
        if (!isCall(call)) {
            return error(BEYOND);
        }
        int fault = grammar.faultOf(world.calls[call]);
        return fault < 0 ? 1 : -10 - fault;
    }

    public int so(int set) {
        if (set < 0 || set > TRUTH_MOST) {
            return error(BEYOND);
        }
        int was = world.truth;
        world.truth = set;
        return was;
    }

    public int says(int call, int way) {
        if (!isCall(call) || !world.readWay(way, firstWay)) {
            return error(BEYOND);
        }
        world.hear(world.calls[call], firstWay, firstRow);
        if (grammar.faultOf(firstRow) >= 0) {
            return error(NONE);
        }
        return grammar.isSo(firstRow, world.truth) ? 1 : 0;
    }

    // ---- seconds

    public int shout(int call, int rock) {
        if (!isCall(call) || !isRock(rock)) {
            return error(BEYOND);
        }
        if (world.echoTimes.size >= ECHOES_MOST) {
            return error(FULL);
        }
        int time = world.now + world.rocks[rock].delay;
        if (time == world.now) {
            world.logEcho(call, rock);
        } else {
            world.addEcho(call, rock, time);
        }
        return time;
    }

    public int seconds(int n) {
        if (n < 1 || n > SECONDS_MOST) {
            return error(BEYOND);
        }
        if (world.now + n > NOW_MOST) {
            return error(STATE);
        }
        for (int i = 0; i < n; i++) {
            world.letSecondGoBy();
        }
        return world.now;
    }

    public int log(int k, int i) {
        Row row = world.journal.rowAhead(k);
        if (row == null) {
            return error(NONE);
        }
        return soundOrSize(row, i);
    }

    // ---- bargains

    public int bargain(int ab, int one, int other, int n, int what) {
        if (ab < 0 || ab / 100 >= OFFERS_TOLD || ab % 100 >= OFFERS_TOLD
                || n < 1 || n > TURNS_MOST || what < 0 || what > 3) {
            return error(BEYOND);
        }
        if (!world.readWay(one, firstWay) || !world.readWay(other, secondWay)) {
            return error(BEYOND);
        }
        deal.begin(ab / 100 + OFFER_LEAST, ab % 100 + OFFER_LEAST);
        deal.goOn(world, firstWay, secondWay, n);
        if (what >= 2) {
            return what == 2 ? deal.sellerOffer : deal.buyerOffer;
        }
        int turn = what == 0 ? deal.closedAt : deal.oddAt;
        return turn < 0 ? error(NONE) : turn;
    }

    public int seed(int v) {
        int was = world.z;
        world.z = v;
        return was;
    }

    // ---- voices, sheets, images, what is told

    public int voice(int rock, int voice, int x) {
        if (!isRock(rock) || voice < 0 || voice >= VOICES) {
            return error(BEYOND);
        }
        Rock speaking = world.rocks[rock];
        int answer = speaker.answer(speaking, rock, voice, x);
        return speaker.parted ? error(PARTED) : answer;
    }

    public int body(int i) {
        if (i < 0 || i >= speaker.trace.size) {
            return error(NONE);
        }
        return speaker.trace.items[i];
    }

    public int sheet(int sheet, int bits, int n) {
        if (!isSheet(sheet) || (bits != 0 && bits != 8 && bits != 16 && bits != 32)) {
            return error(BEYOND);
        }
        if (bits != 0 && n < 0) {
            return error(STATE);
        }
        if (bits != 0 && n > SHEET_MOST) {
            return error(BEYOND);
        }
        sheets[sheet].layOut(bits, bits == 0 ? 0 : n);
        return 1;
    }

    public int put(int sheet, int i, int v) {
        if (!isSheet(sheet)) {
            return error(BEYOND);
        }
        Sheet changed = sheets[sheet];
        if (changed.isMissing()) {
            return error(NONE);
        }
        if (i < 0 || i >= changed.size) {
            return error(BEYOND);
        }
        changed.numbers[i] = changed.lowestBits(v);
        return 1;
    }

    public int move(int sheet, int i, int other, int j, int n) {
        if (!isSheet(sheet) || !isSheet(other)) {
            return error(BEYOND);
        }
        Sheet from = sheets[sheet];
        Sheet to = sheets[other];
        if (from.isMissing() || to.isMissing()) {
            return error(NONE);
        }
        if (from.bits != to.bits) {
            return error(UNLIKE_KIND);
        }
        if (!from.holds(i, n) || !to.holds(j, n)) {
            return error(BEYOND);
        }
        System.arraycopy(from.numbers, i, to.numbers, j, n);
        return n;
    }

    public int sounds(int sheet, int call) {
        if (!isSheet(sheet) || !isCall(call)) {
            return error(BEYOND);
        }
        Sheet from = sheets[sheet];
        if (from.isMissing()) {
            return error(NONE);
        }
        Row row = world.calls[call];
        row.clear();
        for (int i = 0; i < from.size && i < ROW_MOST && isSound(from.numbers[i]); i++) {
            row.add(from.numbers[i]);
        }
        return row.size;
    }

    public int image() {
        kept.copyFrom(world);
        imageCount++;
        return imageCount;
    }

    public int restore() {
        if (imageCount == 0) {
            return error(NONE);
        }
        world.copyFrom(kept);
        return world.now;
    }

    public int tell(int v) {
        if (!world.waiting.add(v)) {
            return error(FULL);
        }
        return world.waiting.size;
    }

    public int check(int call, int way) {
        if (!isCall(call) || !world.readWay(way, firstWay)) {
            world.waiting.clear();
            return error(BEYOND);
        }
        world.hear(world.calls[call], firstWay, firstRow);
        int first = world.waiting.firstUnlike(firstRow);
        world.waiting.clear();
        return 1 + first;
    }

    public int count(int what) {
        switch (what) {
            case 0: return world.callCount;
            case 1: return world.rockCount;
            case 2: return world.now;
            case 3: return world.echoTimes.size;
            case 4: return world.journal.size;
            case 5: return world.truth;
            case 6: return world.tape.size;
            case 7: return world.waiting.size;
            case 8: return speaker.trace.size;
            case 9: return world.z;
            default: return error(BEYOND);
        }
    }

    public int told(int k) {
        if (k < 1 || k > ERRORS) {
            return error(BEYOND);
        }
        return errorCounts[k];
    }

    // ---- what the acts share

    /** An ERROR is counted here and nowhere else: an answer that only looks like one is not. */
    private int error(int which) {
        errorCounts[which]++;
        return LOW - which;
    }

    private int soundOrSize(Row row, int i) {
        if (i == -1) {
            return row.size;
        }
        if (i < -1 || i >= row.size) {
            return error(BEYOND);
        }
        return row.items[i];
    }

    private boolean isCall(int call) {
        return call >= 0 && call < world.callCount;
    }

    private boolean isRock(int rock) {
        return rock >= 0 && rock < world.rockCount;
    }

    private static boolean isSheet(int sheet) {
        return sheet >= 0 && sheet < SHEETS;
    }

    private static boolean isKind(int kind) {
        return kind >= 0 && kind < KINDS;
    }

    private static boolean isDelay(int delay) {
        return delay >= 0 && delay <= DELAY_MOST;
    }

    private static boolean isUse(int use) {
        return use >= 0 && use < USES;
    }

    private static boolean mayBecome(int what, int v) {
        switch (what) {
            case 0: return isKind(v);
            case 1: return v >= 0 && v <= M_MOST;
            case 2: return isDelay(v);
            default: return false;
        }
    }

    private static boolean isUnder(int kind, int above) {
        int at = kind;
        for (int step = 0; step < KINDS && isKind(at); step++) {
            if (at == above) {
                return true;
            }
            at = ABOVE[at];
        }
        return false;
    }

    /** ROCKS, as bits, each of which alone makes one row of another one. */
    private int rocksThatMake(Row made, Row called) {
        int bits = 0;
        for (int r = 0; r < world.rockCount; r++) {
            firstRow.copyFrom(called);
            world.sendBack(world.rocks[r], firstRow);
            if (firstRow.isLike(made)) {
                bits |= 1 << r;
            }
        }
        return bits;
    }

    /** In how many WAYS of at most so many ROCKS a row becomes the goal. */
    private int waysTo(Row row, Row goal, int left) {
        int found = row.isLike(goal) ? 1 : 0;
        if (left <= 0 || left > between.length) {
            return found;
        }
        Row next = between[left - 1];
        for (int r = 0; r < world.rockCount; r++) {
            next.copyFrom(row);
            world.sendBack(world.rocks[r], next);
            found += waysTo(next, goal, left - 1);
        }
        return found;
    }

    // ---- sounds

    private static boolean isSound(int v) {
        return v >= 0 && v <= NOT || v >= FIRST_NUMBER && v <= LAST_NUMBER;
    }

    private static boolean isNumber(int v) {
        return v >= FIRST_NUMBER && v <= LAST_NUMBER;
    }

    private static int soundOr60(int v) {
        return isSound(v) ? v : FIRST_NUMBER;
    }

    private static int contraryOf(int sound) {
        if (sound < FIRST_PLAIN) {
            return sound ^ 1;
        }
        if (sound == AND) {
            return OR;
        }
        if (sound == OR) {
            return AND;
        }
        return sound > FIRST_NUMBER ? 2 * ZERO - sound : sound;
    }

    /** A row of at most so many numbers, be they SOUNDS or not. */
    private static final class Row {
        final int[] items;
        int size = 0;

        Row(int most) {
            items = new int[Math.max(most, 0)];
        }

        void clear() {
            size = 0;
        }

        /** False, and nothing changes, if there is no room. */
        boolean add(int item) {
            if (size >= items.length) {
                return false;
            }
            items[size] = item;
            size++;
            return true;
        }

        void copyFrom(Row other) {
            size = Math.min(other.size, items.length);
            System.arraycopy(other.items, 0, items, 0, size);
        }

        /** The first place in which two rows are unlike, be it that one has ended; -1 if they are alike. */
        int firstUnlike(Row other) {
            int both = Math.min(size, other.size);
            for (int i = 0; i < both; i++) {
                if (items[i] != other.items[i]) {
                    return i;
                }
            }
            return size == other.size ? -1 : both;
        }

        boolean isLike(Row other) {
            return firstUnlike(other) < 0;
        }

        int unsafeSounds() {
            int unsafe = 0;
            for (int i = 0; i < size; i++) {
                if (contraryOf(items[i]) != items[i]) {
                    unsafe++;
                }
            }
            return unsafe;
        }

        /** All but NUMBERS become their CONTRARIES, or, of these, only those in places 1, 3, .. */
        void sayNay(boolean secondOnly) {
            for (int i = 0; i < size; i++) {
                boolean stays = isNumber(items[i]) || secondOnly && i % 2 == 0;
                if (!stays) {
                    items[i] = contraryOf(items[i]);
                }
            }
        }

        void turnNumbers() {
            for (int i = 0; i < size; i++) {
                if (isNumber(items[i])) {
                    items[i] = contraryOf(items[i]);
                }
            }
        }

        void turnRound() {
            for (int i = 0, j = size - 1; i < j; i++, j--) {
                int first = items[i];
                items[i] = items[j];
                items[j] = first;
            }
        }

        /** Each nth SOUND is left out; n is 1 or more. */
        void leaveOutEach(int n) {
            int stay = 0;
            int left = n;
            for (int i = 0; i < size; i++) {
                left--;
                if (left <= 0) {
                    left = n;
                } else {
                    items[stay] = items[i];
                    stay++;
                }
            }
            size = stay;
        }
    }

    private static final class Rock {
        int kind = ROCK;
        int m = 0;
        int delay = 0;

        int tells(int what) {
            return what == 0 ? kind : what == 1 ? m : delay;
        }

        void become(int what, int v) {
            if (what == 0) {
                kind = v;
            } else if (what == 1) {
                m = v;
            } else {
                delay = v;
            }
        }

        void copyFrom(Rock other) {
            kind = other.kind;
            m = other.m;
            delay = other.delay;
        }

        boolean canBeUndone() {
            return kind != SWALLOW && kind != TOLD;
        }
    }

    /** A TEXT, kept as what is to be worked out, operands ahead of what joins them. */
    private static final class Text {
        private static final int NAME = 10000;
        private static final int JOIN = 20000;

        /** None while there is no such TEXT. */
        final Row code = new Row(TAPE_MOST);
        private final int[] stack = new int[TAPE_MOST];

        boolean isThere() {
            return code.size > 0;
        }

        int workOut(int[] names) {
            int top = 0;
            for (int i = 0; i < code.size; i++) {
                int step = code.items[i];
                if (step < JOIN && top < TAPE_MOST) {
                    stack[top] = step < NAME ? step : nameOf(step - NAME, names);
                    top++;
                } else if (step == JOIN + '!' && top >= 1) {
                    stack[top - 1] = stack[top - 1] == 0 ? 1 : 0;
                } else if (top >= 2) {
                    top--;
                    stack[top - 1] = join(step - JOIN, stack[top - 1], stack[top]);
                }
            }
            return stack[0];
        }

        private static int nameOf(int i, int[] names) {
            return i >= 0 && i < names.length ? names[i] : 0;
        }

        private static int join(int sign, int a, int b) {
            switch (sign) {
                case '|': return a != 0 || b != 0 ? 1 : 0;
                case '&': return a != 0 && b != 0 ? 1 : 0;
                case '<': return a < b ? 1 : 0;
                case '=': return a == b ? 1 : 0;
                case '>': return a > b ? 1 : 0;
                case '+': return a + b;
                case '-': return a - b;
                case '*': return a * b;
                case '/': return b == 0 ? 0 : a / b;
                case '%': return b == 0 ? 0 : a % b;
                default: return 0;
            }
        }
    }

    /** Reads a TEXT from THE TAPE. */
    private static final class Reader {
        /** T, A, B, S, P of the document are levels 0 to 4; B alone joins but once. */
        private static final int COMPARING = 2;
        private static final int LEVELS = 5;

        final Row draft = new Row(TAPE_MOST);
        private Row tape = new Row(0);
        private String names = TURNS_NAMES;
        private int at = 0;

        /** The FAULT, or -1 if THE TAPE is a TEXT, which the draft is then. */
        int faultOf(Row read, String namesOfUse) {
            tape = read;
            names = namesOfUse;
            at = 0;
            draft.clear();
            boolean whole = readLevel(0, 0) && at == tape.size;
            return whole ? -1 : at;
        }

        /** The byte that comes next; -1 at the end. */
        private int next() {
            return at < tape.size ? tape.items[at] : -1;
        }

        private static int levelOf(int sign) {
            switch (sign) {
                case '|': return 0;
                case '&': return 1;
                case '<': case '=': case '>': return COMPARING;
                case '+': case '-': return 3;
                case '*': case '/': case '%': return 4;
                default: return -1;
            }
        }

        private boolean readLevel(int level, int open) {
            if (level >= LEVELS) {
                return readQ(open);
            }
            boolean fits = readLevel(level + 1, open);
            int joinsMost = level == COMPARING ? 1 : TAPE_MOST;
            for (int i = 0; i < joinsMost && fits && levelOf(next()) == level; i++) {
                int sign = next();
                at++;
                fits = readLevel(level + 1, open);
                draft.add(Text.JOIN + sign);
            }
            return fits;
        }

        private boolean readQ(int open) {
            int sign = next();
            if (isDigit(sign)) {
                readNumber();
                return true;
            }
            int name = sign < 0 ? -1 : names.indexOf((char) sign);
            if (name >= 0) {
                at++;
                draft.add(Text.NAME + name);
                return true;
            }
            if (open >= OPEN_MOST) {
                return false;
            }
            return sign == '!' ? readDenied(open + 1) : sign == '(' && readEnclosed(open + 1);
        }

        private boolean readDenied(int open) {
            at++;
            boolean fits = readQ(open);
            draft.add(Text.JOIN + '!');
            return fits;
        }

        private boolean readEnclosed(int open) {
            at++;
            if (!readLevel(0, open) || next() != ')') {
                return false;
            }
            at++;
            return true;
        }

        private void readNumber() {
            int value = 0;
            for (int i = 0; i < DIGITS_MOST && isDigit(next()); i++) {
                value = value * 10 + next() - '0';
                at++;
            }
            draft.add(value);
        }

        private static boolean isDigit(int sign) {
            return sign >= '0' && sign <= '9';
        }
    }

    /** THE LOG: a ring of the latest rows. */
    private static final class Journal {
        private final Row[] rows = new Row[LOG_MOST];
        private int latest = 0;
        int size = 0;

        Journal() {
            for (int i = 0; i < rows.length; i++) {
                rows[i] = new Row(ROW_MOST);
            }
        }

        /** The row for what comes now, in place of the oldest one if there is no room. */
        Row newRow() {
            latest = (latest + 1) % LOG_MOST;
            size = Math.min(size + 1, LOG_MOST);
            return rows[latest];
        }

        /** The row that came k ahead of the latest; null if there is none. */
        Row rowAhead(int k) {
            if (k < 0 || k >= size) {
                return null;
            }
            return rows[(latest + LOG_MOST - k) % LOG_MOST];
        }

        void copyFrom(Journal other) {
            for (int i = 0; i < rows.length; i++) {
                rows[i].copyFrom(other.rows[i]);
            }
            latest = other.latest;
            size = other.size;
        }
    }

    /** All that an IMAGE keeps. */
    private static final class World {
        final Row[] calls = new Row[CALLS_MOST];
        final Rock[] rocks = new Rock[ROCKS_MOST];
        final Text[] texts = new Text[USES];
        final Row tape = new Row(TAPE_MOST);
        final Row waiting = new Row(WAITING_MOST);
        /** ECHOES on their way, in the order in which they were shouted. */
        final Row echoCalls = new Row(ECHOES_MOST);
        final Row echoRocks = new Row(ECHOES_MOST);
        final Row echoTimes = new Row(ECHOES_MOST);
        final Journal journal = new Journal();
        int callCount = 0;
        int rockCount = 0;
        int now = 0;
        int truth = 0;
        int z = 1;
        private final int[] names = new int[NAMES];

        World() {
            for (int i = 0; i < calls.length; i++) {
                calls[i] = new Row(ROW_MOST);
            }
            for (int i = 0; i < rocks.length; i++) {
                rocks[i] = new Rock();
            }
            for (int i = 0; i < texts.length; i++) {
                texts[i] = new Text();
            }
        }

        void copyFrom(World other) {
            for (int i = 0; i < calls.length; i++) {
                calls[i].copyFrom(other.calls[i]);
            }
            for (int i = 0; i < rocks.length; i++) {
                rocks[i].copyFrom(other.rocks[i]);
            }
            for (int i = 0; i < texts.length; i++) {
                texts[i].code.copyFrom(other.texts[i].code);
            }
            tape.copyFrom(other.tape);
            waiting.copyFrom(other.waiting);
            echoCalls.copyFrom(other.echoCalls);
            echoRocks.copyFrom(other.echoRocks);
            echoTimes.copyFrom(other.echoTimes);
            journal.copyFrom(other.journal);
            callCount = other.callCount;
            rockCount = other.rockCount;
            now = other.now;
            truth = other.truth;
            z = other.z;
        }

        int nextDraw() {
            z = z * 1103515245 + 12345;
            return z >>> 8;
        }

        /** False if the number tells no WAY. */
        boolean readWay(int number, Row way) {
            way.clear();
            if (number < 0 || number > 9999) {
                return false;
            }
            for (int unit = 1000; unit > 0; unit /= 10) {
                int digit = number / unit % 10;
                if (digit == 0 && way.size == 0) {
                    continue;
                }
                if (digit == 0 || digit > rockCount) {
                    return false;
                }
                way.add(digit - 1);
            }
            return true;
        }

        /** A row becomes what a ROCK sends back of it. */
        void sendBack(Rock rock, Row row) {
            switch (rock.kind) {
                case NAY: row.sayNay(false); break;
                case SECOND: row.sayNay(true); break;
                case LESS: row.turnNumbers(); break;
                case BACK: row.turnRound(); break;
                case SWALLOW:
                    row.turnRound();
                    row.leaveOutEach(rock.m + 1);
                    break;
                case TOLD:
                    row.sayNay(false);
                    turnByText(row, rock.m);
                    break;
                default: break;
            }
        }

        private void turnByText(Row row, int m) {
            Text turns = texts[TURNS_USE];
            if (!turns.isThere()) {
                return;
            }
            names[2] = row.size;
            names[3] = m;
            for (int i = 0; i < row.size; i++) {
                names[0] = row.items[i];
                names[1] = i;
                row.items[i] = soundOr60(turns.workOut(names));
            }
        }

        /** A row becomes what is HEARD of a CALL's row over a WAY. */
        void hear(Row called, Row way, Row into) {
            into.copyFrom(called);
            for (int i = 0; i < way.size; i++) {
                sendBack(rocks[way.items[i]], into);
            }
        }

        void logEcho(int call, int rock) {
            Row row = journal.newRow();
            row.copyFrom(calls[call]);
            sendBack(rocks[rock], row);
        }

        void addEcho(int call, int rock, int time) {
            echoCalls.add(call);
            echoRocks.add(rock);
            echoTimes.add(time);
        }

        void letSecondGoBy() {
            now++;
            int under = echoTimes.size;
            echoCalls.clear();
            echoRocks.clear();
            echoTimes.clear();
            // Those that stay move toward the front, never over one that has yet to be looked at.
            for (int i = 0; i < under; i++) {
                if (echoTimes.items[i] == now) {
                    logEcho(echoCalls.items[i], echoRocks.items[i]);
                } else {
                    addEcho(echoCalls.items[i], echoRocks.items[i], echoTimes.items[i]);
                }
            }
        }

        /** What one calls next in a bargain. */
        int nextOffer(int own, int heardOfOther, int buys, int turn) {
            Text offers = texts[OFFERS_USE];
            int wanted = own + buys * 2 - 1;
            if (offers.isThere()) {
                names[0] = own;
                names[1] = heardOfOther;
                names[2] = buys;
                names[3] = turn;
                wanted = offers.workOut(names);
            }
            return Math.max(OFFER_LEAST, Math.min(OFFER_MOST, wanted));
        }
    }

    /** The unlike rows that may have been called, if a row was HEARD. */
    private static final class Meanings {
        private final Row[] rows = new Row[MEANINGS_MOST];
        private final Row tried = new Row(ROW_MOST);
        int size = 0;

        Meanings() {
            for (int i = 0; i < rows.length; i++) {
                rows[i] = new Row(ROW_MOST);
            }
        }

        /** A ROCK that can be undone is undone by itself, so a row that is known need not be undone twice. */
        void gather(World world, Row row, int k) {
            size = 0;
            addIfUnlike(row);
            for (int step = 0; step < k; step++) {
                int known = size;
                for (int i = 0; i < known; i++) {
                    addUndone(world, rows[i]);
                }
            }
        }

        private void addUndone(World world, Row row) {
            for (int r = 0; r < world.rockCount; r++) {
                if (world.rocks[r].canBeUndone()) {
                    tried.copyFrom(row);
                    world.sendBack(world.rocks[r], tried);
                    addIfUnlike(tried);
                }
            }
        }

        private void addIfUnlike(Row row) {
            for (int i = 0; i < size; i++) {
                if (rows[i].isLike(row)) {
                    return;
                }
            }
            if (size < MEANINGS_MOST) {
                rows[size].copyFrom(row);
                size++;
            }
        }

        /** How many unlike SOUNDS these rows have in a place. */
        int unlikeAt(int spot) {
            long low = 0;
            long high = 0;
            for (int i = 0; i < size; i++) {
                if (spot < rows[i].size) {
                    int sound = rows[i].items[spot];
                    if (sound < 50) {
                        low |= 1L << sound;
                    } else {
                        high |= 1L << (sound - 50);
                    }
                }
            }
            return Long.bitCount(low) + Long.bitCount(high);
        }

        int placeOfMost() {
            int best = 0;
            int most = unlikeAt(0);
            for (int spot = 1; spot < ROW_MOST; spot++) {
                int unlike = unlikeAt(spot);
                if (unlike > most) {
                    best = spot;
                    most = unlike;
                }
            }
            return best;
        }
    }

    /** What a row says. */
    private static final class Grammar {
        private Row row = new Row(ROW_MOST);
        private int truth = 0;
        private int at = 0;

        /** The FAULT, or -1 if the row READS. */
        int faultOf(Row read) {
            int missing = 1;
            boolean numberMayCome = false;
            for (int i = 0; i < read.size; i++) {
                int sound = read.items[i];
                boolean joins = sound == AND || sound == OR;
                boolean fits = isNumber(sound) ? numberMayCome : joins == (missing == 0);
                if (!fits) {
                    return i;
                }
                if (sound == IF || joins) {
                    missing++;
                } else if (sound < AND) {
                    missing--;
                }
                numberMayCome = isNumber(sound) || sound < AND;
            }
            return missing == 0 ? -1 : read.size;
        }

        /** Whether a row that READS is so. */
        boolean isSo(Row read, int set) {
            row = read;
            truth = set;
            at = 0;
            boolean any = false;
            boolean all = isTermSo(0);
            for (int i = 0; i < ROW_MOST && at < row.size; i++) {
                int joining = next();
                boolean term = isTermSo(0);
                if (joining == AND) {
                    all = all && term;
                } else {
                    any = any || all;
                    all = term;
                }
            }
            return any || all;
        }

        private int next() {
            if (at >= row.size) {
                return -1;
            }
            at++;
            return row.items[at - 1];
        }

        private boolean isTermSo(int depth) {
            if (depth > ROW_MOST) {
                return false;
            }
            int sound = next();
            if (sound == NOT) {
                return !isTermSo(depth + 1);
            }
            if (sound == IF) {
                boolean first = isTermSo(depth + 1);
                boolean second = isTermSo(depth + 1);
                return !first || second;
            }
            return sumBehind() >= 0 && isWordSo(sound);
        }

        private int sumBehind() {
            int sum = 0;
            for (int i = 0; i < ROW_MOST && at < row.size && isNumber(row.items[at]); i++) {
                sum += next() - ZERO;
            }
            return sum;
        }

        private boolean isWordSo(int word) {
            if (word >= FIRST_PLAIN) {
                return true;
            }
            boolean evenIsSo = (truth >> (word / 2) & 1) == 1;
            return evenIsSo == (word % 2 == 0);
        }
    }

    /** A BARGAIN. */
    private static final class Deal {
        private final Row calling = new Row(ROW_MOST);
        private final Row coming = new Row(ROW_MOST);
        int sellerOffer = 0;
        int buyerOffer = 0;
        int closedAt = -1;
        int oddAt = -1;
        private int sellerHeard = 0;
        private int buyerHeard = 0;

        void begin(int a, int b) {
            sellerOffer = a;
            buyerOffer = b;
            sellerHeard = a;
            buyerHeard = b;
            closedAt = -1;
            oddAt = -1;
        }

        void goOn(World world, Row sellerWay, Row buyerWay, int n) {
            for (int turn = 0; turn < n && closedAt < 0; turn++) {
                buyerHeard = numberHeard(world, sellerOffer, sellerWay, buyerHeard);
                sellerHeard = numberHeard(world, buyerOffer, buyerWay, sellerHeard);
                boolean buyerThinks = buyerOffer >= buyerHeard;
                boolean sellerThinks = sellerHeard >= sellerOffer;
                if (buyerThinks != sellerThinks && oddAt < 0) {
                    oddAt = turn;
                }
                if (buyerThinks && sellerThinks) {
                    closedAt = turn;
                } else {
                    sellerOffer = world.nextOffer(sellerOffer, sellerHeard, 0, turn);
                    buyerOffer = world.nextOffer(buyerOffer, buyerHeard, 1, turn);
                }
            }
        }

        private int numberHeard(World world, int offer, Row way, int heardAhead) {
            calling.clear();
            calling.add(offer + ZERO);
            world.hear(calling, way, coming);
            if (coming.size == 0 || !isNumber(coming.items[0])) {
                return heardAhead;
            }
            return coming.items[0] - ZERO;
        }
    }

    /** VOICES of a ROCK, and THE TRACE of the latest one. */
    private static final class Speaker {
        private static final int TURNS = 0;
        private static final int SENDS = 1;
        private static final int KEEPS = 2;
        private static final int WAITS = 3;
        private static final int DEPTH_MOST = 40;
        /** BODIES by KIND and voice; 0: the KIND has none of its own. */
        private static final int[] BODIES = {
            10, 11, 12, 13,
            20, 0, 0, 21,
            0, 30, 0, 0,
            0, 0, 40, 0,
            50, 0, 51, 0,
            0, 60, 0, 0,
            70, 0, 0, 71,
        };

        final Row trace = new Row(TRACE_MOST);
        /** Once it is so, no BODY begins any more. */
        boolean parted = false;
        private int kind = 0;
        private int m = 0;
        private int k = 0;

        int answer(Rock rock, int numberOfRock, int voice, int x) {
            kind = rock.kind;
            m = rock.m;
            k = numberOfRock;
            trace.clear();
            parted = false;
            return speak(voice, kind, x, 0);
        }

        /** A voice, by the first BODY from a KIND upward. */
        private int speak(int voice, int fromKind, int x, int depth) {
            int owner = ownerOfBody(voice, fromKind);
            if (parted || depth > DEPTH_MOST || owner < 0) {
                return 0;
            }
            int number = BODIES[owner * VOICES + voice];
            trace.add(number);
            int above = ABOVE[owner];
            int deeper = depth + 1;
            switch (number) {
                case 10: return x + k;
                case 11: return speak(TURNS, kind, x, deeper) * 2;
                case 12: return speak(SENDS, kind, x, deeper) - m;
                case 13: return waitsOfRock(x);
                case 20: return speak(TURNS, above, x, deeper) - 5;
                case 21: return speak(WAITS, above, x, deeper) + speak(SENDS, kind, 1, deeper);
                case 30: return 0 - speak(SENDS, above, x, deeper);
                case 40: return speak(KEEPS, above, x / 2, deeper);
                case 50: return speak(TURNS, above, x, deeper) * 3;
                case 51: return speak(KEEPS, above, x, deeper) ^ k;
                case 60: return speak(SENDS, above, x + 1, deeper);
                case 70: return 9;
                case 71: return speak(WAITS, above, x, deeper) - speak(KEEPS, kind, 0, deeper);
                default: return 0;
            }
        }

        private int waitsOfRock(int x) {
            int divisor = m - k;
            if (divisor == 0) {
                parted = true;
                return 0;
            }
            return x / divisor;
        }

        private static int ownerOfBody(int voice, int fromKind) {
            int at = fromKind;
            for (int step = 0; step < KINDS && isKind(at); step++) {
                if (BODIES[at * VOICES + voice] != 0) {
                    return at;
                }
                at = ABOVE[at];
            }
            return -1;
        }
    }

    /** A row of numbers of 8, 16 or 32 bits; of 0 bits while it is missing. */
    private static final class Sheet {
        final int[] numbers = new int[SHEET_MOST];
        int bits = 0;
        int size = 0;

        boolean isMissing() {
            return bits == 0;
        }

        void layOut(int newBits, int newSize) {
            bits = newBits;
            size = newSize;
            for (int i = 0; i < numbers.length; i++) {
                numbers[i] = 0;
            }
        }

        int lowestBits(int v) {
            return bits == 8 ? (byte) v : bits == 16 ? (short) v : v;
        }

        /** Whether n numbers stand here from number i on. */
        boolean holds(int i, int n) {
            return i >= 0 && n >= 0 && i <= size && n <= size - i;
        }
    }
}
