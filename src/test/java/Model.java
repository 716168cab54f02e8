import java.util.ArrayList;
import java.util.HashSet;
import java.util.List;
import java.util.Set;

/**
 * The document once more, written in another way than the program and without heed of its cost:
 * everything is copied, calls are a list, a text is cut into words before its lines are looked at.
 */
final class Model {
    static final int BAD = -1, STATE = -2, FULL = -3, NONE = -4;

    /** A refusal on the way of reading a text. */
    private static final class Fault extends RuntimeException {
        private static final long serialVersionUID = 1;
        final int kind;
        final int place;

        Fault(int kind, int place) {
            this.kind = kind;
            this.place = place;
        }
    }

    private static final class Way {
        boolean dead;
        int uses;
    }

    private static final class Hunters {
        int kind = 0;
        int latest = NONE;
        final List<Way> ways = new ArrayList<>();
    }

    /** caller, called, group, way */
    private record Call(int caller, int called, int group, int way) {
    }

    private static final class World {
        final List<Integer> numbers = new ArrayList<>();
        final List<Call> calls = new ArrayList<>();
        final List<Hunters> groups = new ArrayList<>();
        final List<int[]> plan = new ArrayList<>();
        final List<int[]> seen = new ArrayList<>();
        int finders = 2;

        World() {
            for (int t = 0; t < 5; t++) {
                Hunters h = new Hunters();
                h.ways.add(new Way());
                groups.add(h);
            }
        }

        World copy() {
            World w = new World();
            w.numbers.addAll(numbers);
            w.calls.addAll(calls);
            w.plan.addAll(plan);
            w.seen.addAll(seen);
            w.finders = finders;
            for (int t = 0; t < 5; t++) {
                Hunters from = groups.get(t);
                Hunters to = w.groups.get(t);
                to.kind = from.kind;
                to.latest = from.latest;
                to.ways.clear();
                for (Way way : from.ways) {
                    Way copied = new Way();
                    copied.dead = way.dead;
                    copied.uses = way.uses;
                    to.ways.add(copied);
                }
            }
            return w;
        }

        Call callOf(int a) {
            for (Call c : calls) {
                if (c.caller == a || c.called == a) {
                    return c;
                }
            }
            return null;
        }

        int with(int a) {
            Call c = callOf(a);
            return c == null ? NONE : c.caller == a ? c.called : c.caller;
        }

        boolean held(int t, int w) {
            return calls.stream().anyMatch(c -> c.group == t && c.way == w);
        }

        int heldBits(int t) {
            int bits = 0;
            for (int w = 0; w < 4; w++) {
                bits += held(t, w) ? 1 << w : 0;
            }
            return bits;
        }

        int would(int t) {
            Hunters h = groups.get(t);
            List<Integer> round = new ArrayList<>();
            for (int w = 0; w < h.ways.size(); w++) {
                round.add(w);
            }
            if (h.kind == 2) {
                java.util.Collections.reverse(round);
            }
            if (h.kind == 1 || h.kind == 3) {
                java.util.Collections.rotate(round, h.latest == NONE ? 0 : -(h.latest + 1));
            }
            round.removeIf(w -> held(t, w));
            if (h.kind == 3) {
                round.sort((p, q) -> Integer.compare(h.ways.get(p).uses, h.ways.get(q).uses));
            }
            return round.isEmpty() ? NONE : round.get(0);
        }

        int dial(int a, int n) {
            if (calls.size() == finders) {
                return 1;
            }
            int t = n / 10;
            int w = would(t);
            if (w == NONE) {
                return 2;
            }
            groups.get(t).latest = w;
            groups.get(t).ways.get(w).uses++;
            int b = numbers.indexOf(n);
            if (groups.get(t).ways.get(w).dead) {
                return 3;
            }
            if (b < 0) {
                return 4;
            }
            if (b == a || callOf(b) != null) {
                return 5;
            }
            calls.add(new Call(a, b, t, w));
            return 0;
        }

        int hang(int a) {
            int b = with(a);
            calls.remove(callOf(a));
            return b;
        }

        void ways(int t, int n) {
            Hunters h = groups.get(t);
            while (h.ways.size() > n) {
                h.ways.remove(h.ways.size() - 1);
            }
            while (h.ways.size() < n) {
                h.ways.add(new Way());
            }
            if (h.latest >= n) {
                h.latest = NONE;
            }
        }

        boolean waysMay(int t, int n) {
            return calls.stream().noneMatch(c -> c.group == t && c.way >= n);
        }

        /** FATES by the plan; this world is what it is then. */
        List<Integer> run() {
            List<Integer> fates = new ArrayList<>();
            for (int[] act : plan) {
                boolean in = callOf(act[0]) != null;
                boolean hangs = act[1] == 99;
                if (in != hangs) {
                    fates.add(6);
                } else if (hangs) {
                    hang(act[0]);
                    fates.add(0);
                } else {
                    fates.add(dial(act[0], act[1]));
                }
            }
            return fates;
        }

        int lost() {
            return (int) copy().run().stream().filter(f -> f >= 1 && f <= 5).count();
        }

        boolean asSeen() {
            List<Integer> fates = copy().run();
            return seen.stream().allMatch(s -> s[0] < fates.size() && fates.get(s[0]) == s[1]);
        }
    }

    private static final class Row {
        final int lane;
        final long[] cells;

        Row(int lane, int n) {
            this.lane = lane;
            cells = new long[n];
        }
    }

    private World now = new World();
    private String tape = "";
    private int fault = 0;
    private int torn = 0;
    private final World[] images = new World[2];
    private final Row[] sheets = new Row[4];

    private static boolean isNumber(int n) {
        return n >= 0 && n <= 44 && n % 10 <= 4;
    }

    private boolean isOne(int a) {
        return a >= 0 && a < now.numbers.size();
    }

    private static boolean in(int x, int least, int most) {
        return x >= least && x <= most;
    }

    int feed(int c) {
        if (!in(c, 0, 127)) {
            return BAD;
        }
        if (tape.length() == 160) {
            return FULL;
        }
        tape += (char) c;
        return tape.length();
    }

    int end(int n) {
        if (!in(n, 0, tape.length())) {
            return BAD;
        }
        int had = tape.length();
        tape = tape.substring(0, n);
        return had;
    }

    int text() {
        String whole = tape;
        tape = "";
        try {
            World told = new World();
            int lines = new Reading(whole).into(told);
            now = told;
            images[0] = null;
            images[1] = null;
            fault = 0;
            return lines;
        } catch (Fault f) {
            fault = f.kind;
            return -10 - f.place;
        }
    }

    private static final class Reading {
        private final String text;
        private int at = 0;
        private int place = 0;

        Reading(String text) {
            this.text = text;
        }

        /** The next word; "" at the end. */
        private String word() {
            String rest = text.substring(at);
            String bare = rest.replaceFirst("^ +", "");
            place = at + rest.length() - bare.length();
            java.util.regex.Matcher m = java.util.regex.Pattern.compile("[a-z]+|[0-9]+|;").matcher(bare);
            if (bare.isEmpty()) {
                at = place;
                return "";
            }
            if (!m.lookingAt() || m.group().matches("[0-9]{3,}")) {
                throw new Fault(1, place);
            }
            at = place + m.end();
            return m.group();
        }

        private int figure(String word) {
            if (!word.matches("[0-9]+")) {
                throw new Fault(2, place);
            }
            return Integer.parseInt(word);
        }

        private void check(boolean fine, int kind) {
            if (!fine) {
                throw new Fault(kind, place);
            }
        }

        int into(World w) {
            Set<String> once = new HashSet<>();
            int lines = 0;
            List<String> kinds = List.of("home", "on", "back", "spread");
            for (String name = word(); !name.isEmpty(); name = word()) {
                if (name.equals("line")) {
                    check(w.numbers.size() < 6, 5);
                    int n = figure(word());
                    check(isNumber(n), 3);
                    check(!w.numbers.contains(n), 4);
                    w.numbers.add(n);
                    check(word().equals(";"), 2);
                } else if (name.equals("finders")) {
                    check(once.add(name), 4);
                    w.finders = figure(word());
                    check(in(w.finders, 1, 6), 3);
                    check(word().equals(";"), 2);
                } else if (kinds.contains(name)) {
                    int t = figure(word());
                    check(t <= 4, 3);
                    check(once.add("group" + t), 4);
                    int n = figure(word());
                    check(n <= 4, 3);
                    w.groups.get(t).kind = kinds.indexOf(name);
                    w.ways(t, n);
                    check(word().equals(";"), 2);
                } else {
                    check(name.equals("plan"), 2);
                    check(once.add(name), 4);
                    for (String next = word(); !next.equals(";"); next = word()) {
                        int a = figure(next);
                        check(w.plan.size() < 8, 5);
                        check(a <= 5, 3);
                        int n = figure(word());
                        check(n == 99 || isNumber(n), 3);
                        w.plan.add(new int[] {a, n});
                    }
                }
                lines++;
            }
            for (int[] act : w.plan) {
                check(act[0] < w.numbers.size(), 6);
            }
            return lines;
        }
    }

    int fault() {
        return fault;
    }

    int rule(int what) {
        int bits = 0;
        int uses = 0;
        for (int a = 0; a < 6; a++) {
            bits += now.callOf(a) == null ? 0 : 1 << a;
        }
        for (Hunters h : now.groups) {
            for (Way w : h.ways) {
                uses += w.uses;
            }
        }
        int[] all = {now.numbers.size(), now.finders, now.calls.size(), now.plan.size(), uses, bits};
        return in(what, 0, 5) ? all[what] : BAD;
    }

    int one(int a, int what) {
        if (!isOne(a) || !in(what, 0, 3)) {
            return BAD;
        }
        Call c = now.callOf(a);
        int[] all = {now.numbers.get(a), now.with(a), c == null ? 0 : c.caller == a ? 1 : 2, c == null ? NONE : 10 * c.group + c.way};
        return all[what];
    }

    int group(int t, int what) {
        if (!in(t, 0, 4) || !in(what, 0, 5)) {
            return BAD;
        }
        Hunters h = now.groups.get(t);
        int dead = 0;
        for (int w = 0; w < h.ways.size(); w++) {
            dead += h.ways.get(w).dead ? 1 << w : 0;
        }
        int[] all = {h.kind, h.ways.size(), dead, now.heldBits(t), h.latest, now.would(t)};
        return all[what];
    }

    private boolean isWay(int t, int w) {
        return in(t, 0, 4) && in(w, 0, now.groups.get(t).ways.size() - 1);
    }

    int uses(int t, int w) {
        return isWay(t, w) ? now.groups.get(t).ways.get(w).uses : BAD;
    }

    int act(int i, int what) {
        return in(i, 0, now.plan.size() - 1) && in(what, 0, 1) ? now.plan.get(i)[what] : BAD;
    }

    int number(int a, int n) {
        if (!isOne(a) || !isNumber(n) || (now.numbers.contains(n) && now.numbers.indexOf(n) != a)) {
            return BAD;
        }
        return now.callOf(a) != null ? STATE : now.numbers.set(a, n);
    }

    int finders(int n) {
        if (!in(n, 1, 6)) {
            return BAD;
        }
        if (now.calls.size() > n) {
            return STATE;
        }
        int was = now.finders;
        now.finders = n;
        return was;
    }

    int hunt(int t, int kind) {
        if (!in(t, 0, 4) || !in(kind, 0, 3)) {
            return BAD;
        }
        int was = now.groups.get(t).kind;
        now.groups.get(t).kind = kind;
        return was;
    }

    int ways(int t, int n) {
        if (!in(t, 0, 4) || !in(n, 0, 4)) {
            return BAD;
        }
        if (!now.waysMay(t, n)) {
            return STATE;
        }
        int was = now.groups.get(t).ways.size();
        now.ways(t, n);
        return was;
    }

    int dead(int t, int w, boolean is) {
        if (!isWay(t, w)) {
            return BAD;
        }
        Way way = now.groups.get(t).ways.get(w);
        int was = way.dead ? 1 : 0;
        way.dead = is;
        return was;
    }

    int plan(int a, int n) {
        if (!isOne(a) || (n != 99 && !isNumber(n))) {
            return BAD;
        }
        if (now.plan.size() == 8) {
            return FULL;
        }
        now.plan.add(new int[] {a, n});
        return now.plan.size();
    }

    private static int shorten(List<int[]> list, int n) {
        if (!in(n, 0, list.size())) {
            return BAD;
        }
        int had = list.size();
        list.subList(n, had).clear();
        return had;
    }

    int cut(int n) {
        return shorten(now.plan, n);
    }

    int dial(int a, int n) {
        return !isOne(a) || !isNumber(n) ? BAD : now.callOf(a) != null ? STATE : now.dial(a, n);
    }

    int hang(int a) {
        return !isOne(a) ? BAD : now.callOf(a) == null ? STATE : now.hang(a);
    }

    int runs(int what) {
        World w = now.copy();
        List<Integer> fates = w.run();
        int[] all = {0, 0, NONE, w.calls.size(), 0};
        for (int i = 0; i < fates.size(); i++) {
            int f = fates.get(i);
            all[0] += f == 0 && now.plan.get(i)[1] != 99 ? 1 : 0;
            all[4] += f == 6 ? 1 : 0;
            if (in(f, 1, 5)) {
                all[1]++;
                all[2] = all[2] == NONE ? i : all[2];
            }
        }
        return in(what, 0, 4) ? all[what] : BAD;
    }

    int fate(int i) {
        return in(i, 0, now.plan.size() - 1) ? now.copy().run().get(i) : BAD;
    }

    int ahead(int a) {
        if (!isOne(a)) {
            return BAD;
        }
        World w = now.copy();
        w.run();
        return w.with(a);
    }

    int need(int t) {
        if (!in(t, 0, 4)) {
            return BAD;
        }
        for (int n = 0; n <= 4; n++) {
            World w = now.copy();
            if (w.waysMay(t, n)) {
                w.ways(t, n);
                List<Integer> fates = w.run();
                boolean wants = false;
                for (int i = 0; i < fates.size(); i++) {
                    wants |= fates.get(i) == 2 && now.plan.get(i)[1] / 10 == t;
                }
                if (!wants) {
                    return n;
                }
            }
        }
        return NONE;
    }

    int few() {
        for (int n = 1; n <= 6; n++) {
            World w = now.copy();
            w.finders = n;
            if (w.calls.size() <= n && !w.run().contains(1)) {
                return n;
            }
        }
        return NONE;
    }

    /** Of pairs of a thing and a figure, the first of the least figure under a bound. */
    private static int least(List<int[]> pairs, int bound, int what) {
        int[] found = {NONE, NONE};
        int least = bound;
        for (int[] pair : pairs) {
            if (pair[1] < least) {
                least = pair[1];
                found = pair;
            }
        }
        return found[what];
    }

    int grade(int t, int what) {
        if (!in(t, 0, 4) || !in(what, 0, 1)) {
            return BAD;
        }
        List<int[]> pairs = new ArrayList<>();
        for (int kind = 0; kind < 4; kind++) {
            World w = now.copy();
            w.groups.get(t).kind = kind;
            pairs.add(new int[] {kind, w.lost()});
        }
        return least(pairs, 9, what);
    }

    int swap(int what) {
        if (!in(what, 0, 1)) {
            return BAD;
        }
        List<int[]> pairs = new ArrayList<>();
        for (int ab = 0; ab < 60; ab++) {
            int a = ab / 10;
            int b = ab % 10;
            if (a < b && isOne(b) && now.callOf(a) == null && now.callOf(b) == null) {
                World w = now.copy();
                java.util.Collections.swap(w.numbers, a, b);
                pairs.add(new int[] {ab, w.lost()});
            }
        }
        return least(pairs, now.lost(), what);
    }

    int leave(int what) {
        if (!in(what, 0, 1)) {
            return BAD;
        }
        List<int[]> pairs = new ArrayList<>();
        for (int i = 0; i < now.plan.size(); i++) {
            World w = now.copy();
            w.plan.remove(i);
            pairs.add(new int[] {i, w.lost()});
        }
        return least(pairs, now.lost(), what);
    }

    int more(int what) {
        if (!in(what, 0, 1)) {
            return BAD;
        }
        List<int[]> pairs = new ArrayList<>();
        for (int t = 0; t < 5; t++) {
            World w = now.copy();
            int n = w.groups.get(t).ways.size() + 1;
            if (n <= 4) {
                w.ways(t, n);
                pairs.add(new int[] {t, w.lost()});
            }
        }
        return least(pairs, now.lost(), what);
    }

    /** Sums over what may fail, act by act: {in a call with each other, LOST} in tenths by each dial. */
    private static long[] failing(World w, int i, long weight, int v, int a, int b) {
        if (weight == 0) {
            return new long[2];
        }
        if (i == w.plan.size()) {
            World then = w.copy();
            then.run();
            return new long[] {a >= 0 && then.with(a) == b ? weight : 0, weight * w.lost()};
        }
        if (w.plan.get(i)[1] == 99) {
            return failing(w, i + 1, weight, v, a, b);
        }
        World without = w.copy();
        without.plan.remove(i);
        long[] comes = failing(w, i + 1, weight * (10 - v), v, a, b);
        long[] fails = failing(without, i, weight * v, v, a, b);
        return new long[] {comes[0] + fails[0], comes[1] + fails[1]};
    }

    private long lowest(long above, int what) {
        long below = 1;
        for (int[] act : now.plan) {
            below *= act[1] == 99 ? 1 : 10;
        }
        long common = java.math.BigInteger.valueOf(above).gcd(java.math.BigInteger.valueOf(below)).longValue();
        return (what == 0 ? above : below) / common;
    }

    long luck(int v, int a, int b, int what) {
        if (!in(v, 0, 10) || !isOne(a) || !isOne(b) || a == b || !in(what, 0, 1)) {
            return BAD;
        }
        return lowest(failing(now, 0, 1, v, a, b)[0], what);
    }

    long mean(int v, int what) {
        if (!in(v, 0, 10) || !in(what, 0, 1)) {
            return BAD;
        }
        return lowest(failing(now, 0, 1, v, NONE, NONE)[1], what);
    }

    int see(int i, int fate) {
        if (!in(i, 0, 7) || !in(fate, 0, 6)) {
            return BAD;
        }
        if (now.seen.size() == 6) {
            return FULL;
        }
        now.seen.add(new int[] {i, fate});
        return now.seen.size();
    }

    int forget(int n) {
        return shorten(now.seen, n);
    }

    int hunts(int t) {
        if (!in(t, 0, 4)) {
            return BAD;
        }
        int bits = 0;
        for (int kind = 0; kind < 4; kind++) {
            World w = now.copy();
            w.groups.get(t).kind = kind;
            bits += w.asSeen() ? 1 << kind : 0;
        }
        return bits;
    }

    private List<World> deadWorlds(int t) {
        List<World> all = new ArrayList<>();
        int size = now.groups.get(t).ways.size();
        for (int set = 0; set < 1 << size; set++) {
            World w = now.copy();
            for (int i = 0; i < size; i++) {
                w.groups.get(t).ways.get(i).dead = (set & 1 << i) != 0;
            }
            all.add(w);
        }
        return all;
    }

    int deads(int t) {
        if (!in(t, 0, 4)) {
            return BAD;
        }
        int bits = 0;
        List<World> all = deadWorlds(t);
        for (int set = 0; set < all.size(); set++) {
            bits += all.get(set).asSeen() ? 1 << set : 0;
        }
        return bits;
    }

    int ask(int t, int what) {
        if (!in(t, 0, 4) || !in(what, 0, 1)) {
            return BAD;
        }
        List<World> left = deadWorlds(t);
        left.removeIf(w -> !w.asSeen());
        List<int[]> pairs = new ArrayList<>();
        for (int i = 0; i < now.plan.size(); i++) {
            int worst = 0;
            for (int fate = 0; fate <= 6; fate++) {
                int same = 0;
                for (World w : left) {
                    same += w.copy().run().get(i) == fate ? 1 : 0;
                }
                worst = Math.max(worst, same);
            }
            pairs.add(new int[] {i, worst});
        }
        return least(pairs, left.size(), what);
    }

    int drift(int seed, int n, int what) {
        if (!in(n, 1, 60) || !in(what, 0, 1)) {
            return BAD;
        }
        if (now.numbers.isEmpty()) {
            return STATE;
        }
        World w = now.copy();
        long s = seed & 0xffffffffL;
        int lost = 0;
        for (int i = 0; i < n; i++) {
            s = (s * 1103515245L + 12345L) % (1L << 32);
            int got = (int) (s / 65536 % 32768);
            int a = got % w.numbers.size();
            if (w.callOf(a) != null) {
                w.hang(a);
            } else {
                lost += w.dial(a, w.numbers.get(got / 8 % w.numbers.size())) == 0 ? 0 : 1;
            }
        }
        return what == 0 ? lost : w.calls.size();
    }

    int keep(int k) {
        if (!in(k, 0, 1)) {
            return BAD;
        }
        int was = images[k] == null ? 0 : 1;
        images[k] = now.copy();
        return was;
    }

    int back(int k) {
        if (!in(k, 0, 1)) {
            return BAD;
        }
        if (images[k] == null) {
            return STATE;
        }
        now = images[k].copy();
        return now.calls.size();
    }

    int sheet(int k, int lane, int n) {
        if (!in(k, 0, 3) || !in(lane, 0, 2) || n > 40) {
            return BAD;
        }
        if (n < 0) {
            return -14;
        }
        sheets[k] = new Row(lane, n);
        return 1;
    }

    int lay(int k, int i, int v) {
        if (!in(k, 0, 3)) {
            return BAD;
        }
        if (sheets[k] == null) {
            return -11;
        }
        if (!in(i, 0, sheets[k].cells.length - 1)) {
            return -12;
        }
        long half = 1L << (8 << sheets[k].lane) - 1;
        sheets[k].cells[i] = Math.floorMod(v + half, 2 * half) - half;
        return 1;
    }

    int read(int k, int lane, int f, int n) {
        if (!in(k, 0, 3) || !in(lane, 0, 2) || !in(n, 0, 20)) {
            return BAD;
        }
        World before = now.copy();
        int met = n == 0 ? 0 : sheets[k] == null ? 1 : sheets[k].lane != lane ? 3 : 0;
        int came = 0;
        while (came < n && met == 0) {
            long at = (long) f + came + came;
            if (at < 0 || at + 2 > sheets[k].cells.length) {
                met = 2;
            } else {
                int a = (int) sheets[k].cells[(int) at];
                int b = (int) sheets[k].cells[(int) at + 1];
                if ((b == 99 ? hang(a) : dial(a, b)) < 0) {
                    now = before;
                    return -20 - came;
                }
                came++;
            }
        }
        torn = met;
        return came;
    }

    int torn() {
        return torn;
    }

    int count(int what) {
        int kept = (images[0] == null ? 0 : 1) + (images[1] == null ? 0 : 1);
        int ways = 0;
        int dead = 0;
        for (Hunters h : now.groups) {
            ways += h.ways.size();
            for (Way w : h.ways) {
                dead += w.dead ? 1 : 0;
            }
        }
        int[] all = {now.seen.size(), kept, tape.length(), sheets[0] == null ? NONE : sheets[0].cells.length, ways, dead};
        return in(what, 0, 5) ? all[what] : BAD;
    }
}
