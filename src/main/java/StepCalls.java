/**
 * An exchange of switches that step up by a figure and hunt round for a free way.
 * The promises that it keeps stand in ../shared/DOC.md; the names here are those of the document.
 */
public final class StepCalls {
    public static final int BAD = -1, STATE = -2, FULL = -3, NONE = -4;

    private static final int MAX_ONES = 6;
    private static final int MAX_FINDERS = 6;
    private static final int FIRST_FINDERS = 2;
    private static final int ALL_GROUPS = 5;
    private static final int MAX_WAYS = 4;
    private static final int FIRST_WAYS = 1;
    private static final int MAX_ACTS = 8;
    private static final int ALL_ACTS = 255;
    private static final int MAX_SEEN = 6;
    private static final int MAX_TAPE = 160;
    private static final int ALL_IMAGES = 2;
    private static final int ALL_SHEETS = 4;
    private static final int MAX_CELLS = 40;
    private static final int MAX_READ = 20;
    private static final int MAX_DRIFT = 60;

    private static final int TOP_FIGURE = 4;
    private static final int HANG_UP = 99;

    private static final int HOME = 0, ON = 1, BACKWARD = 2, SPREAD = 3;

    private static final int CONNECTED = 0, NO_FINDER = 1, NO_WAY = 2, SILENCE = 3, NOBODY = 4, BUSY = 5, PASSED = 6;

    private static final int IDLE = 0, CALLER = 1, CALLED = 2;

    private static final int NULL_FAULT = 1, INDEX_FAULT = 2, CAST_FAULT = 3, SIZE_FAULT = 4;

    private final Exchange now = new Exchange();
    private final Script script = new Script();
    private final Trial trial = new Trial();
    private final Best best = new Best();
    private final int[][] tally = new int[MAX_ACTS][PASSED + 1];
    private final Reader reader = new Reader();
    private final Tape tape = reader.tape;
    private final Image[] images = new Image[ALL_IMAGES];
    private final Sheet[] sheets = new Sheet[ALL_SHEETS];
    private int textFault = 0;
    private int readFault = 0;

    public StepCalls() {
        for (int k = 0; k < ALL_IMAGES; k++) {
            images[k] = new Image();
        }
        for (int k = 0; k < ALL_SHEETS; k++) {
            sheets[k] = new Sheet();
        }
    }

    // ---- the text

    public int feed(int c) {
        if (c < 0 || c > 127) {
            return BAD;
        }
        if (tape.length >= MAX_TAPE) {
            return FULL;
        }
        tape.bytes[tape.length] = c;
        tape.length++;
        return tape.length;
    }

    public int end(int n) {
        if (n < 0 || n > tape.length) {
            return BAD;
        }
        int had = tape.length;
        tape.length = n;
        return had;
    }

    public int text() {
        boolean taken = reader.readAll();
        tape.length = 0;
        textFault = reader.fault;
        if (!taken) {
            return -10 - reader.place;
        }
        now.copyFrom(reader.exchange);
        script.copyFrom(reader.script);
        for (int k = 0; k < ALL_IMAGES; k++) {
            images[k].there = false;
        }
        return reader.lines;
    }

    public int fault() {
        return textFault;
    }

    public int rule(int what) {
        switch (what) {
            case 0:
                return now.ones;
            case 1:
                return now.finders;
            case 2:
                return now.calls;
            case 3:
                return script.acts;
            case 4:
                return now.allUses();
            case 5:
                return now.inCalls();
            default:
                return BAD;
        }
    }

    public int one(int a, int what) {
        if (!now.has(a)) {
            return BAD;
        }
        switch (what) {
            case 0:
                return now.numbers[a];
            case 1:
                return now.partners[a];
            case 2:
                return now.roles[a];
            case 3:
                return now.holds[a];
            default:
                return BAD;
        }
    }

    public int group(int t, int what) {
        if (!isGroup(t)) {
            return BAD;
        }
        Group g = now.groups[t];
        switch (what) {
            case 0:
                return g.kind;
            case 1:
                return g.size;
            case 2:
                return g.deadSet;
            case 3:
                return g.heldSet;
            case 4:
                return g.latest;
            case 5:
                return g.pick();
            default:
                return BAD;
        }
    }

    public int uses(int t, int w) {
        if (!isWay(t, w)) {
            return BAD;
        }
        return now.groups[t].used[w];
    }

    public int act(int i, int what) {
        if (!isAct(i) || !isBit(what)) {
            return BAD;
        }
        return what == 0 ? script.who[i] : script.dialled[i];
    }

    // ---- what is changed

    public int number(int a, int n) {
        if (!now.has(a) || !isNumber(n)) {
            return BAD;
        }
        int owner = now.owner(n);
        if (owner != NONE && owner != a) {
            return BAD;
        }
        if (now.roles[a] != IDLE) {
            return STATE;
        }
        int was = now.numbers[a];
        now.numbers[a] = n;
        return was;
    }

    public int finders(int n) {
        if (n < 1 || n > MAX_FINDERS) {
            return BAD;
        }
        if (now.calls > n) {
            return STATE;
        }
        int was = now.finders;
        now.finders = n;
        return was;
    }

    public int hunt(int t, int kind) {
        if (!isGroup(t) || kind < HOME || kind > SPREAD) {
            return BAD;
        }
        int was = now.groups[t].kind;
        now.groups[t].kind = kind;
        return was;
    }

    public int ways(int t, int n) {
        if (!isGroup(t) || n < 0 || n > MAX_WAYS) {
            return BAD;
        }
        Group g = now.groups[t];
        if (!g.isFreeFrom(n)) {
            return STATE;
        }
        int was = g.size;
        g.resize(n);
        return was;
    }

    public int dead(int t, int w, boolean is) {
        if (!isWay(t, w)) {
            return BAD;
        }
        Group g = now.groups[t];
        int was = g.isDead(w) ? 1 : 0;
        g.deadSet = is ? g.deadSet | 1 << w : g.deadSet & ~(1 << w);
        return was;
    }

    public int plan(int a, int n) {
        if (!now.has(a) || !isDialled(n)) {
            return BAD;
        }
        if (script.acts >= MAX_ACTS) {
            return FULL;
        }
        script.addAct(a, n);
        return script.acts;
    }

    public int cut(int n) {
        if (n < 0 || n > script.acts) {
            return BAD;
        }
        int had = script.acts;
        script.acts = n;
        return had;
    }

    // ---- calls

    public int dial(int a, int n) {
        return dialIn(now, a, n);
    }

    public int hang(int a) {
        return hangIn(now, a);
    }

    public int runs(int what) {
        if (what < 0 || what > 4) {
            return BAD;
        }
        followAsIs();
        switch (what) {
            case 0:
                return trial.connected;
            case 1:
                return trial.lost;
            case 2:
                return trial.firstLost;
            case 3:
                return trial.exchange.calls;
            default:
                return trial.passed;
        }
    }

    public int fate(int i) {
        if (!isAct(i)) {
            return BAD;
        }
        followAsIs();
        return trial.fates[i];
    }

    public int ahead(int a) {
        if (!now.has(a)) {
            return BAD;
        }
        followAsIs();
        return trial.exchange.partners[a];
    }

    // ---- what is best

    public int need(int t) {
        if (!isGroup(t)) {
            return BAD;
        }
        for (int n = 0; n <= MAX_WAYS; n++) {
            if (now.groups[t].isFreeFrom(n)) {
                trial.exchange.copyFrom(now);
                trial.exchange.groups[t].resize(n);
                trial.follow(script, ALL_ACTS);
                if (!trial.wantedWayOf(script, t)) {
                    return n;
                }
            }
        }
        return NONE;
    }

    public int few() {
        for (int n = Math.max(1, now.calls); n <= MAX_FINDERS; n++) {
            trial.exchange.copyFrom(now);
            trial.exchange.finders = n;
            trial.follow(script, ALL_ACTS);
            if (!trial.wantedFinder(script)) {
                return n;
            }
        }
        return NONE;
    }

    public int grade(int t, int what) {
        if (!isGroup(t) || !isBit(what)) {
            return BAD;
        }
        best.begin(MAX_ACTS + 1);
        for (int kind = HOME; kind <= SPREAD; kind++) {
            followWithHunt(t, kind);
            best.offer(kind, trial.lost);
        }
        return best.told(what);
    }

    public int swap(int what) {
        if (!isBit(what)) {
            return BAD;
        }
        followAsIs();
        best.begin(trial.lost);
        for (int a = 0; a < now.ones; a++) {
            for (int b = a + 1; b < now.ones; b++) {
                if (now.roles[a] == IDLE && now.roles[b] == IDLE) {
                    followWithSwap(a, b);
                    best.offer(10 * a + b, trial.lost);
                }
            }
        }
        return best.told(what);
    }

    public int leave(int what) {
        if (!isBit(what)) {
            return BAD;
        }
        followAsIs();
        best.begin(trial.lost);
        for (int i = 0; i < script.acts; i++) {
            trial.exchange.copyFrom(now);
            trial.follow(script, ALL_ACTS & ~(1 << i));
            best.offer(i, trial.lost);
        }
        return best.told(what);
    }

    public int more(int what) {
        if (!isBit(what)) {
            return BAD;
        }
        followAsIs();
        best.begin(trial.lost);
        for (int t = 0; t < ALL_GROUPS; t++) {
            int size = now.groups[t].size;
            if (size < MAX_WAYS) {
                trial.exchange.copyFrom(now);
                trial.exchange.groups[t].resize(size + 1);
                trial.follow(script, ALL_ACTS);
                best.offer(t, trial.lost);
            }
        }
        return best.told(what);
    }

    // ---- dials that fail

    public long luck(int v, int a, int b, int what) {
        if (!isOdds(v) || !now.has(a) || !now.has(b) || a == b || !isBit(what)) {
            return BAD;
        }
        return fraction(weighed(v, a, b), power(10, Integer.bitCount(script.dials())), what);
    }

    public long mean(int v, int what) {
        if (!isOdds(v) || !isBit(what)) {
            return BAD;
        }
        return fraction(weighed(v, NONE, NONE), power(10, Integer.bitCount(script.dials())), what);
    }

    // ---- which way, which hunt it was

    public int see(int i, int fate) {
        if (i < 0 || i >= MAX_ACTS || fate < CONNECTED || fate > PASSED) {
            return BAD;
        }
        if (script.seen >= MAX_SEEN) {
            return FULL;
        }
        script.seenActs[script.seen] = i;
        script.seenFates[script.seen] = fate;
        script.seen++;
        return script.seen;
    }

    public int forget(int n) {
        if (n < 0 || n > script.seen) {
            return BAD;
        }
        int had = script.seen;
        script.seen = n;
        return had;
    }

    public int hunts(int t) {
        if (!isGroup(t)) {
            return BAD;
        }
        int found = 0;
        for (int kind = HOME; kind <= SPREAD; kind++) {
            followWithHunt(t, kind);
            if (trial.isAsSeen(script)) {
                found |= 1 << kind;
            }
        }
        return found;
    }

    public int deads(int t) {
        if (!isGroup(t)) {
            return BAD;
        }
        int found = 0;
        int sets = 1 << now.groups[t].size;
        for (int set = 0; set < sets; set++) {
            followWithDead(t, set);
            if (trial.isAsSeen(script)) {
                found |= 1 << set;
            }
        }
        return found;
    }

    public int ask(int t, int what) {
        if (!isGroup(t) || !isBit(what)) {
            return BAD;
        }
        clearTally();
        int total = 0;
        int sets = 1 << now.groups[t].size;
        for (int set = 0; set < sets; set++) {
            followWithDead(t, set);
            if (trial.isAsSeen(script)) {
                total++;
                tallyFates();
            }
        }
        best.begin(total);
        for (int i = 0; i < script.acts; i++) {
            best.offer(i, mostTallied(i));
        }
        return best.told(what);
    }

    // ---- by a seed

    public int drift(int seed, int n, int what) {
        if (n < 1 || n > MAX_DRIFT || !isBit(what)) {
            return BAD;
        }
        if (now.ones == 0) {
            return STATE;
        }
        Exchange e = trial.exchange;
        e.copyFrom(now);
        int lost = 0;
        int s = seed;
        for (int i = 0; i < n; i++) {
            s = s * 1103515245 + 12345;
            int got = s >> 16 & 32767;
            int a = got % now.ones;
            if (e.roles[a] != IDLE) {
                e.part(a);
            } else if (e.ring(a, e.numbers[got / 8 % now.ones]) != CONNECTED) {
                lost++;
            }
        }
        return what == 0 ? lost : e.calls;
    }

    // ---- images, sheets

    public int keep(int k) {
        if (k < 0 || k >= ALL_IMAGES) {
            return BAD;
        }
        Image image = images[k];
        int was = image.there ? 1 : 0;
        image.there = true;
        image.exchange.copyFrom(now);
        image.script.copyFrom(script);
        return was;
    }

    public int back(int k) {
        if (k < 0 || k >= ALL_IMAGES) {
            return BAD;
        }
        Image image = images[k];
        if (!image.there) {
            return STATE;
        }
        now.copyFrom(image.exchange);
        script.copyFrom(image.script);
        return now.calls;
    }

    public int sheet(int k, int lane, int n) {
        if (!isSheet(k) || !isLane(lane) || n > MAX_CELLS) {
            return BAD;
        }
        if (n < 0) {
            return -10 - SIZE_FAULT;
        }
        sheets[k].renew(lane, n);
        return 1;
    }

    public int lay(int k, int i, int v) {
        if (!isSheet(k)) {
            return BAD;
        }
        Sheet s = sheets[k];
        if (s.length == NONE) {
            return -10 - NULL_FAULT;
        }
        if (!s.has(i)) {
            return -10 - INDEX_FAULT;
        }
        s.cells[i] = s.narrowed(v);
        return 1;
    }

    public int read(int k, int lane, int f, int n) {
        if (!isSheet(k) || !isLane(lane) || n < 0 || n > MAX_READ) {
            return BAD;
        }
        Sheet s = sheets[k];
        int found = n == 0 ? 0 : s.faultAs(lane);
        // dialled on a copy, so that one that is refused leaves all as it was
        trial.exchange.copyFrom(now);
        int came = 0;
        while (came < n && found == 0) {
            long at = f + 2L * came;
            if (!s.has(at) || !s.has(at + 1)) {
                found = INDEX_FAULT;
            } else if (isRefused(s.cells[(int) at], s.cells[(int) at + 1])) {
                return -20 - came;
            } else {
                came++;
            }
        }
        now.copyFrom(trial.exchange);
        readFault = found;
        return came;
    }

    public int torn() {
        return readFault;
    }

    public int count(int what) {
        switch (what) {
            case 0:
                return script.seen;
            case 1:
                return countImages();
            case 2:
                return tape.length;
            case 3:
                return sheets[0].length;
            case 4:
                return now.allWays();
            case 5:
                return now.allDead();
            default:
                return BAD;
        }
    }

    // ---- what numbers are

    private static boolean isNumber(int n) {
        return n >= 0 && n / 10 <= TOP_FIGURE && n % 10 <= TOP_FIGURE;
    }

    private static boolean isDialled(int n) {
        return n == HANG_UP || isNumber(n);
    }

    private static boolean isGroup(int t) {
        return t >= 0 && t < ALL_GROUPS;
    }

    private boolean isWay(int t, int w) {
        return isGroup(t) && w >= 0 && w < now.groups[t].size;
    }

    private boolean isAct(int i) {
        return i >= 0 && i < script.acts;
    }

    private static boolean isBit(int what) {
        return what == 0 || what == 1;
    }

    private static boolean isOdds(int v) {
        return v >= 0 && v <= 10;
    }

    private static boolean isSheet(int k) {
        return k >= 0 && k < ALL_SHEETS;
    }

    private static boolean isLane(int lane) {
        return lane >= 0 && lane <= 2;
    }

    // ---- calls in an exchange that is given, so that sheets can be read on a copy

    private static int dialIn(Exchange e, int a, int n) {
        if (!e.has(a) || !isNumber(n)) {
            return BAD;
        }
        if (e.roles[a] != IDLE) {
            return STATE;
        }
        return e.ring(a, n);
    }

    private static int hangIn(Exchange e, int a) {
        if (!e.has(a)) {
            return BAD;
        }
        if (e.roles[a] == IDLE) {
            return STATE;
        }
        return e.part(a);
    }

    private boolean isRefused(int a, int n) {
        int answer = n == HANG_UP ? hangIn(trial.exchange, a) : dialIn(trial.exchange, a, n);
        return answer < 0;
    }

    // ---- the plan, followed on a copy

    private void followAsIs() {
        trial.exchange.copyFrom(now);
        trial.follow(script, ALL_ACTS);
    }

    private void followWithHunt(int t, int kind) {
        trial.exchange.copyFrom(now);
        trial.exchange.groups[t].kind = kind;
        trial.follow(script, ALL_ACTS);
    }

    private void followWithDead(int t, int set) {
        trial.exchange.copyFrom(now);
        trial.exchange.groups[t].deadSet = set;
        trial.follow(script, ALL_ACTS);
    }

    private void followWithSwap(int a, int b) {
        trial.exchange.copyFrom(now);
        trial.exchange.numbers[a] = now.numbers[b];
        trial.exchange.numbers[b] = now.numbers[a];
        trial.follow(script, ALL_ACTS);
    }

    // ---- how often each ACT has each FATE, over the sets that ask() looks at

    private void clearTally() {
        for (int i = 0; i < MAX_ACTS; i++) {
            for (int f = CONNECTED; f <= PASSED; f++) {
                tally[i][f] = 0;
            }
        }
    }

    private void tallyFates() {
        for (int i = 0; i < script.acts; i++) {
            tally[i][trial.fates[i]]++;
        }
    }

    private int mostTallied(int i) {
        int most = 0;
        for (int f = CONNECTED; f <= PASSED; f++) {
            most = Math.max(most, tally[i][f]);
        }
        return most;
    }

    // ---- odds

    /**
     * Sums over all that may fail: the weight of it, in tenths by each dial, times what it brings:
     * 1 if a and b are in a call then, or how many are LOST, if a is NONE.
     */
    private long weighed(int v, int a, int b) {
        int dials = script.dials();
        int all = Integer.bitCount(dials);
        long sum = 0;
        for (int kept = 0; kept <= ALL_ACTS; kept++) {
            // each choice of dials once: hangings up are no part of the choice
            if ((kept & ~dials) == 0) {
                int stay = Integer.bitCount(kept);
                long weight = power(10 - v, stay) * power(v, all - stay);
                if (weight != 0) {
                    trial.exchange.copyFrom(now);
                    trial.follow(script, kept | ~dials);
                    sum += weight * broughtBy(a, b);
                }
            }
        }
        return sum;
    }

    private int broughtBy(int a, int b) {
        if (a == NONE) {
            return trial.lost;
        }
        return trial.exchange.partners[a] == b ? 1 : 0;
    }

    private static long power(int base, int exponent) {
        long p = 1;
        for (int i = 0; i < exponent; i++) {
            p *= base;
        }
        return p;
    }

    private static long fraction(long above, long below, int what) {
        long d = divisor(above, below);
        if (d == 0) {
            return 0;
        }
        return what == 0 ? above / d : below / d;
    }

    private static long divisor(long x, long y) {
        long p = x;
        long q = y;
        // each two rounds halve q at least, so that 200 are more than a long can need
        for (int i = 0; i < 200 && q != 0; i++) {
            long r = p % q;
            p = q;
            q = r;
        }
        return p;
    }

    private int countImages() {
        int n = 0;
        for (int k = 0; k < ALL_IMAGES; k++) {
            if (images[k].there) {
                n++;
            }
        }
        return n;
    }

    /** The WAYS of one first figure. WAYS from size on are never DEAD, have no USES. */
    private static final class Group {
        int kind = HOME;
        int size = FIRST_WAYS;
        int deadSet = 0;
        int heldSet = 0;
        int latest = NONE;
        final int[] used = new int[MAX_WAYS];

        Group() {
        }

        void clear() {
            kind = HOME;
            size = FIRST_WAYS;
            deadSet = 0;
            heldSet = 0;
            latest = NONE;
            for (int w = 0; w < MAX_WAYS; w++) {
                used[w] = 0;
            }
        }

        void copyFrom(Group g) {
            kind = g.kind;
            size = g.size;
            deadSet = g.deadSet;
            heldSet = g.heldSet;
            latest = g.latest;
            for (int w = 0; w < MAX_WAYS; w++) {
                used[w] = g.used[w];
            }
        }

        boolean isFreeFrom(int n) {
            return heldSet >> n == 0;
        }

        void resize(int n) {
            size = n;
            deadSet &= (1 << n) - 1;
            for (int w = n; w < MAX_WAYS; w++) {
                used[w] = 0;
            }
            if (latest >= n) {
                latest = NONE;
            }
        }

        boolean isDead(int w) {
            return (deadSet >> w & 1) != 0;
        }

        boolean isFree(int w) {
            return (heldSet >> w & 1) == 0;
        }

        /** The WAY that would be taken now, NONE if none is free. */
        int pick() {
            int found = NONE;
            for (int i = 0; i < size; i++) {
                int w = inTurn(i);
                if (isFree(w) && (found == NONE || kind == SPREAD && used[w] < used[found])) {
                    found = w;
                }
            }
            return found;
        }

        /** The i-th WAY that this HUNT looks at. */
        int inTurn(int i) {
            if (kind == HOME) {
                return i;
            }
            if (kind == BACKWARD) {
                return size - 1 - i;
            }
            int w = latest == NONE ? i : latest + 1 + i;
            return w < size ? w : w - size;
        }
    }

    /** SUBSCRIBERS, calls, FINDERS and GROUPS. */
    private static final class Exchange {
        int ones = 0;
        int finders = FIRST_FINDERS;
        int calls = 0;
        final int[] numbers = new int[MAX_ONES];
        final int[] partners = new int[MAX_ONES];
        final int[] roles = new int[MAX_ONES];
        final int[] holds = new int[MAX_ONES];
        final Group[] groups = new Group[ALL_GROUPS];

        Exchange() {
            for (int t = 0; t < ALL_GROUPS; t++) {
                groups[t] = new Group();
            }
        }

        void clear() {
            ones = 0;
            finders = FIRST_FINDERS;
            calls = 0;
            for (int t = 0; t < ALL_GROUPS; t++) {
                groups[t].clear();
            }
        }

        void copyFrom(Exchange e) {
            ones = e.ones;
            finders = e.finders;
            calls = e.calls;
            for (int a = 0; a < ones; a++) {
                numbers[a] = e.numbers[a];
                partners[a] = e.partners[a];
                roles[a] = e.roles[a];
                holds[a] = e.holds[a];
            }
            for (int t = 0; t < ALL_GROUPS; t++) {
                groups[t].copyFrom(e.groups[t]);
            }
        }

        boolean has(int a) {
            return a >= 0 && a < ones;
        }

        void addOne(int n) {
            numbers[ones] = n;
            release(ones);
            ones++;
        }

        int owner(int n) {
            for (int a = 0; a < ones; a++) {
                if (numbers[a] == n) {
                    return a;
                }
            }
            return NONE;
        }

        /** A ONE in no call dials a NUMBER: its FATE. */
        int ring(int a, int n) {
            if (calls >= finders) {
                return NO_FINDER;
            }
            int t = n / 10;
            Group g = groups[t];
            int w = g.pick();
            if (w == NONE) {
                return NO_WAY;
            }
            g.latest = w;
            g.used[w]++;
            if (g.isDead(w)) {
                return SILENCE;
            }
            int b = owner(n);
            if (b == NONE) {
                return NOBODY;
            }
            if (b == a || roles[b] != IDLE) {
                return BUSY;
            }
            join(a, b, 10 * t + w);
            return CONNECTED;
        }

        void join(int a, int b, int hold) {
            partners[a] = b;
            partners[b] = a;
            roles[a] = CALLER;
            roles[b] = CALLED;
            holds[a] = hold;
            holds[b] = hold;
            groups[hold / 10].heldSet |= 1 << hold % 10;
            calls++;
        }

        /** A ONE in a call hangs up: who was in it with him. */
        int part(int a) {
            int b = partners[a];
            int hold = holds[a];
            groups[hold / 10].heldSet &= ~(1 << hold % 10);
            release(a);
            release(b);
            calls--;
            return b;
        }

        void release(int a) {
            partners[a] = NONE;
            roles[a] = IDLE;
            holds[a] = NONE;
        }

        int inCalls() {
            int bits = 0;
            for (int a = 0; a < ones; a++) {
                if (roles[a] != IDLE) {
                    bits |= 1 << a;
                }
            }
            return bits;
        }

        int allUses() {
            int sum = 0;
            for (int t = 0; t < ALL_GROUPS; t++) {
                for (int w = 0; w < groups[t].size; w++) {
                    sum += groups[t].used[w];
                }
            }
            return sum;
        }

        int allWays() {
            int sum = 0;
            for (int t = 0; t < ALL_GROUPS; t++) {
                sum += groups[t].size;
            }
            return sum;
        }

        int allDead() {
            int sum = 0;
            for (int t = 0; t < ALL_GROUPS; t++) {
                sum += Integer.bitCount(groups[t].deadSet);
            }
            return sum;
        }
    }

    /** THE PLAN and what is SEEN. */
    private static final class Script {
        int acts = 0;
        int seen = 0;
        final int[] who = new int[MAX_ACTS];
        final int[] dialled = new int[MAX_ACTS];
        final int[] seenActs = new int[MAX_SEEN];
        final int[] seenFates = new int[MAX_SEEN];

        Script() {
        }

        void clear() {
            acts = 0;
            seen = 0;
        }

        void copyFrom(Script s) {
            acts = s.acts;
            seen = s.seen;
            for (int i = 0; i < acts; i++) {
                who[i] = s.who[i];
                dialled[i] = s.dialled[i];
            }
            for (int i = 0; i < seen; i++) {
                seenActs[i] = s.seenActs[i];
                seenFates[i] = s.seenFates[i];
            }
        }

        void addAct(int a, int n) {
            who[acts] = a;
            dialled[acts] = n;
            acts++;
        }

        /** Which ACTS are no hanging up (bits). */
        int dials() {
            int bits = 0;
            for (int i = 0; i < acts; i++) {
                if (dialled[i] != HANG_UP) {
                    bits |= 1 << i;
                }
            }
            return bits;
        }
    }

    /** THE PLAN followed on an exchange of its own, and what came of it. */
    private static final class Trial {
        final Exchange exchange = new Exchange();
        final int[] fates = new int[MAX_ACTS];
        int connected = 0;
        int lost = 0;
        int firstLost = NONE;
        int passed = 0;

        Trial() {
        }

        /** Follows the ACTS whose bits are kept; the others are left out, their fates stay. */
        void follow(Script s, int kept) {
            connected = 0;
            lost = 0;
            firstLost = NONE;
            passed = 0;
            for (int i = 0; i < s.acts; i++) {
                if ((kept >> i & 1) != 0) {
                    fates[i] = fateOf(s.who[i], s.dialled[i]);
                    note(i, s.dialled[i] == HANG_UP);
                }
            }
        }

        int fateOf(int a, int n) {
            boolean idle = exchange.roles[a] == IDLE;
            if (idle == (n == HANG_UP)) {
                return PASSED;
            }
            if (idle) {
                return exchange.ring(a, n);
            }
            exchange.part(a);
            return CONNECTED;
        }

        void note(int i, boolean hangs) {
            int fate = fates[i];
            if (fate == PASSED) {
                passed++;
            } else if (fate != CONNECTED) {
                lost++;
                if (firstLost == NONE) {
                    firstLost = i;
                }
            } else if (!hangs) {
                connected++;
            }
        }

        boolean wantedWayOf(Script s, int t) {
            for (int i = 0; i < s.acts; i++) {
                if (fates[i] == NO_WAY && s.dialled[i] / 10 == t) {
                    return true;
                }
            }
            return false;
        }

        boolean wantedFinder(Script s) {
            for (int i = 0; i < s.acts; i++) {
                if (fates[i] == NO_FINDER) {
                    return true;
                }
            }
            return false;
        }

        boolean isAsSeen(Script s) {
            for (int j = 0; j < s.seen; j++) {
                int i = s.seenActs[j];
                if (i >= s.acts || fates[i] != s.seenFates[j]) {
                    return false;
                }
            }
            return true;
        }
    }

    /** The first of several by which a figure is least, below a bound. */
    private static final class Best {
        int which = NONE;
        int least = 0;

        Best() {
        }

        void begin(int bound) {
            which = NONE;
            least = bound;
        }

        void offer(int candidate, int figure) {
            if (figure < least) {
                which = candidate;
                least = figure;
            }
        }

        int told(int what) {
            if (which == NONE) {
                return NONE;
            }
            return what == 0 ? which : least;
        }
    }

    /** THE TAPE and the TOKEN on it that was read last. */
    private static final class Tape {
        static final int AT_END = 0, NAME = 1, NUMBER = 2, SIGN = 3, BROKEN = 4;

        final int[] bytes = new int[MAX_TAPE];
        int length = 0;
        int token = AT_END;
        int place = 0;
        int behind = 0;
        int value = 0;

        Tape() {
        }

        void rewind() {
            token = AT_END;
            place = 0;
            behind = 0;
        }

        void next() {
            place = behind;
            while (place < length && bytes[place] == ' ') {
                place++;
            }
            token = kindAt(place);
            behind = token == AT_END ? place : place + 1;
            if (token == NAME || token == NUMBER) {
                while (behind < length && kindAt(behind) == token) {
                    behind++;
                }
            }
            if (token == NUMBER) {
                measure();
            }
        }

        /** The TOKEN that a byte begins, or goes on with. */
        int kindAt(int i) {
            if (i >= length) {
                return AT_END;
            }
            int c = bytes[i];
            if (c >= 'a' && c <= 'z') {
                return NAME;
            }
            if (c >= '0' && c <= '9') {
                return NUMBER;
            }
            return c == ';' ? SIGN : BROKEN;
        }

        void measure() {
            if (behind - place > 2) {
                token = BROKEN;
                return;
            }
            value = 0;
            for (int i = place; i < behind; i++) {
                value = 10 * value + bytes[i] - '0';
            }
        }

        boolean spells(String word) {
            if (behind - place != word.length()) {
                return false;
            }
            for (int i = 0; i < word.length(); i++) {
                if (bytes[place + i] != word.charAt(i)) {
                    return false;
                }
            }
            return true;
        }
    }

    /** Reads THE TAPE into a draft, so that a FAULT leaves what was told before. */
    private static final class Reader {
        static final int NO_TOKEN = 1, NOT_THERE = 2, OUT_OF_BOUNDS = 3, TOLD_ALREADY = 4, TOO_MANY = 5, NO_SUCH_ONE = 6;

        final Tape tape = new Tape();
        final Exchange exchange = new Exchange();
        final Script script = new Script();
        int lines = 0;
        int fault = 0;
        int place = 0;
        boolean findersTold = false;
        boolean planTold = false;
        int groupsTold = 0;

        Reader() {
        }

        boolean readAll() {
            begin();
            // a line takes a byte at least
            for (int i = 0; i <= MAX_TAPE; i++) {
                tape.next();
                if (tape.token == Tape.AT_END) {
                    return hasAllOnes();
                }
                if (!readLine()) {
                    return false;
                }
                lines++;
            }
            return wrong(NOT_THERE);
        }

        void begin() {
            tape.rewind();
            exchange.clear();
            script.clear();
            lines = 0;
            fault = 0;
            place = 0;
            findersTold = false;
            planTold = false;
            groupsTold = 0;
        }

        /** The FAULT is of the TOKEN that was read last. */
        boolean wrong(int kind) {
            fault = kind;
            place = tape.place;
            return false;
        }

        /** Looks at the TOKEN that was read last. */
        boolean stands(int token) {
            if (tape.token == Tape.BROKEN) {
                return wrong(NO_TOKEN);
            }
            return tape.token == token || wrong(NOT_THERE);
        }

        boolean takes(int token) {
            tape.next();
            return stands(token);
        }

        boolean takesNumber(int least, int most) {
            tape.next();
            if (!stands(Tape.NUMBER)) {
                return false;
            }
            return tape.value >= least && tape.value <= most || wrong(OUT_OF_BOUNDS);
        }

        boolean readLine() {
            if (!stands(Tape.NAME)) {
                return false;
            }
            if (tape.spells("line")) {
                return readOne();
            }
            if (tape.spells("finders")) {
                return readFinders();
            }
            if (tape.spells("home")) {
                return readGroup(HOME);
            }
            if (tape.spells("on")) {
                return readGroup(ON);
            }
            if (tape.spells("back")) {
                return readGroup(BACKWARD);
            }
            if (tape.spells("spread")) {
                return readGroup(SPREAD);
            }
            if (tape.spells("plan")) {
                return readPlan();
            }
            return wrong(NOT_THERE);
        }

        boolean readOne() {
            if (exchange.ones >= MAX_ONES) {
                return wrong(TOO_MANY);
            }
            if (!takes(Tape.NUMBER)) {
                return false;
            }
            if (!isNumber(tape.value)) {
                return wrong(OUT_OF_BOUNDS);
            }
            if (exchange.owner(tape.value) != NONE) {
                return wrong(TOLD_ALREADY);
            }
            exchange.addOne(tape.value);
            return takes(Tape.SIGN);
        }

        boolean readFinders() {
            if (findersTold) {
                return wrong(TOLD_ALREADY);
            }
            findersTold = true;
            if (!takesNumber(1, MAX_FINDERS)) {
                return false;
            }
            exchange.finders = tape.value;
            return takes(Tape.SIGN);
        }

        boolean readGroup(int kind) {
            if (!takesNumber(0, ALL_GROUPS - 1)) {
                return false;
            }
            int t = tape.value;
            if ((groupsTold >> t & 1) != 0) {
                return wrong(TOLD_ALREADY);
            }
            groupsTold |= 1 << t;
            if (!takesNumber(0, MAX_WAYS)) {
                return false;
            }
            exchange.groups[t].kind = kind;
            exchange.groups[t].resize(tape.value);
            return takes(Tape.SIGN);
        }

        boolean readPlan() {
            if (planTold) {
                return wrong(TOLD_ALREADY);
            }
            planTold = true;
            for (int i = 0; i <= MAX_ACTS; i++) {
                tape.next();
                if (tape.token == Tape.SIGN) {
                    return true;
                }
                if (!stands(Tape.NUMBER)) {
                    return false;
                }
                if (script.acts >= MAX_ACTS) {
                    return wrong(TOO_MANY);
                }
                int a = tape.value;
                if (a >= MAX_ONES) {
                    return wrong(OUT_OF_BOUNDS);
                }
                if (!takes(Tape.NUMBER)) {
                    return false;
                }
                if (!isDialled(tape.value)) {
                    return wrong(OUT_OF_BOUNDS);
                }
                script.addAct(a, tape.value);
            }
            return wrong(TOO_MANY);
        }

        boolean hasAllOnes() {
            for (int i = 0; i < script.acts; i++) {
                if (!exchange.has(script.who[i])) {
                    return wrong(NO_SUCH_ONE);
                }
            }
            return true;
        }
    }

    /** IMAGE: all that back() brings back. */
    private static final class Image {
        boolean there = false;
        final Exchange exchange = new Exchange();
        final Script script = new Script();

        Image() {
        }
    }

    /** SHEET: its length is NONE as long as it is nothing; its row is made once and used again. */
    private static final class Sheet {
        int lane = 0;
        int length = NONE;
        final int[] cells = new int[MAX_CELLS];

        Sheet() {
        }

        void renew(int newLane, int n) {
            lane = newLane;
            length = n;
            for (int i = 0; i < n; i++) {
                cells[i] = 0;
            }
        }

        boolean has(long i) {
            return i >= 0 && i < length;
        }

        /** What the machine finds as the SHEET is taken as of a lane. */
        int faultAs(int asked) {
            if (length == NONE) {
                return NULL_FAULT;
            }
            return lane == asked ? 0 : CAST_FAULT;
        }

        int narrowed(int v) {
            if (lane == 0) {
                return (byte) v;
            }
            return lane == 1 ? (short) v : v;
        }
    }
}
