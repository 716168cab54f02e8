import java.util.function.IntFunction;
import java.util.function.IntPredicate;
import java.util.function.IntToLongFunction;

/**
 * "BAD -1 (a number is not as told, there is no such ONE, GROUP, WAY, ACT, IMAGE, SHEET)":
 * for each number of each call one too small, the least, all between, the most, one too large, and the ends of int.
 */
public final class BoundsTest {
    private static final Check CHECK = new Check("BoundsTest");
    private static final int BAD = StepCalls.BAD;

    public static void main(String[] args) {
        theText();
        whatIsTold();
        whatIsChanged();
        calls();
        whatIsBest();
        dialsThatFail();
        whichWay();
        bySeed();
        images();
        sheets();
        onesThatThereAre();
        waysThatThereAre();
        actsThatThereAre();
        seenThatThereAre();
        cellsThatThereAre();
        CHECK.finish();
    }

    /** Each number from least to most is taken by a call, no other one is. */
    private static void bounds(String call, int least, int most, IntToLongFunction answer) {
        only(call, v -> v >= least && v <= most, least - 3, most + 3, answer);
    }

    /** Two figures 0 to 4, told one by one, so that no rule of the program's own is used. */
    private static boolean isNumber(int n) {
        int[] all = {0, 1, 2, 3, 4, 10, 11, 12, 13, 14, 20, 21, 22, 23, 24, 30, 31, 32, 33, 34, 40, 41, 42, 43, 44};
        for (int one : all) {
            if (one == n) {
                return true;
            }
        }
        return false;
    }

    private static void only(String call, IntPredicate taken, int from, int to, IntToLongFunction answer) {
        for (int v = from; v <= to; v++) {
            CHECK.due(call + " is BAD by " + v, answer.applyAsLong(v) == BAD ? 1 : 0, taken.test(v) ? 0 : 1);
        }
        int[] far = {Integer.MIN_VALUE, Integer.MIN_VALUE + 1, -256, 256, 65536, Integer.MAX_VALUE - 1, Integer.MAX_VALUE};
        for (int v : far) {
            CHECK.due(call + " by " + v, answer.applyAsLong(v), BAD);
        }
    }

    private static void theText() {
        bounds("2: feed(c)", 0, 127, c -> Given.part().feed(c));
        bounds("3: end(n)", 0, Given.BYTES, n -> Given.part().end(n));
        bounds("3: end(n) of a full TAPE", 0, 160, n -> Given.full().end(n));
        bounds("3: end(n) of an empty TAPE", 0, 0, n -> new StepCalls().end(n));
    }

    private static void whatIsTold() {
        bounds("6: rule(what)", 0, 5, what -> Given.part().rule(what));
        bounds("7: one(a, 0)", 0, Given.ONES - 1, a -> Given.part().one(a, 0));
        bounds("7: one(4, what)", 0, 3, what -> Given.part().one(4, what));
        bounds("7: one(1, what)", 0, 3, what -> Given.part().one(1, what));
        bounds("8: group(t, 1)", 0, 4, t -> Given.part().group(t, 1));
        bounds("8: group(1, what)", 0, 5, what -> Given.part().group(1, what));
        bounds("9: uses(t, 0)", 1, 4, t -> Given.part().uses(t, 0));
        bounds("10: act(i, 0)", 0, Given.ACTS - 1, i -> Given.part().act(i, 0));
        bounds("10: act(i, 1)", 0, Given.ACTS - 1, i -> Given.part().act(i, 1));
        bounds("10: act(0, what)", 0, 1, what -> Given.part().act(0, what));
    }

    private static void whatIsChanged() {
        bounds("11: number(a, 0)", 0, Given.ONES - 1, a -> Given.part().number(a, 0));
        int[] others = {11, 12, 21, 22, 44};
        only("11: number(4, n)", n -> isNumber(n) && !isOneOf(n, others), -12, 112, n -> Given.part().number(4, n));
        bounds("12: finders(n)", 1, 6, n -> Given.part().finders(n));
        bounds("13: hunt(t, 3)", 0, 4, t -> Given.part().hunt(t, 3));
        bounds("13: hunt(2, kind)", 0, 3, kind -> Given.part().hunt(2, kind));
        bounds("14: ways(t, 4)", 0, 4, t -> Given.part().ways(t, 4));
        bounds("14: ways(3, n)", 0, 4, n -> Given.part().ways(3, n));
        bounds("14: ways(1, n), WAY 0 is held", 0, 4, n -> Given.part().ways(1, n));
        bounds("15: dead(t, 0, true)", 1, 4, t -> Given.part().dead(t, 0, true));
        bounds("16: plan(a, 0)", 0, Given.ONES - 1, a -> Given.part().plan(a, 0));
        only("16: plan(0, n)", n -> isNumber(n) || n == 99, -12, 112, n -> Given.part().plan(0, n));
        bounds("17: cut(n)", 0, Given.ACTS, n -> Given.part().cut(n));
        bounds("17: cut(n) of a full PLAN", 0, 8, n -> Given.full().cut(n));
        bounds("17: cut(n) of an empty PLAN", 0, 0, n -> new StepCalls().cut(n));
    }

    private static boolean isOneOf(int n, int... all) {
        for (int one : all) {
            if (one == n) {
                return true;
            }
        }
        return false;
    }

    private static void calls() {
        bounds("18: dial(a, 0)", 0, Given.ONES - 1, a -> Given.part().dial(a, 0));
        only("18: dial(4, n)", BoundsTest::isNumber, -12, 112, n -> Given.part().dial(4, n));
        only("18: dial(0, n) in a call", BoundsTest::isNumber, -12, 112, n -> Given.part().dial(0, n));
        bounds("19: hang(a)", 0, Given.ONES - 1, a -> Given.part().hang(a));
        bounds("20: runs(what)", 0, 4, what -> Given.part().runs(what));
        bounds("21: fate(i)", 0, Given.ACTS - 1, i -> Given.part().fate(i));
        bounds("22: ahead(a)", 0, Given.ONES - 1, a -> Given.part().ahead(a));
    }

    private static void whatIsBest() {
        bounds("23: need(t)", 0, 4, t -> Given.part().need(t));
        bounds("25: grade(t, 0)", 0, 4, t -> Given.part().grade(t, 0));
        bounds("25: grade(t, 1)", 0, 4, t -> Given.part().grade(t, 1));
        bounds("25: grade(1, what)", 0, 1, what -> Given.part().grade(1, what));
        bounds("26: swap(what)", 0, 1, what -> Given.part().swap(what));
        bounds("27: leave(what)", 0, 1, what -> Given.part().leave(what));
        bounds("28: more(what)", 0, 1, what -> Given.part().more(what));
        bounds("26: swap(what) of a new one", 0, 1, what -> new StepCalls().swap(what));
        bounds("27: leave(what) of a new one", 0, 1, what -> new StepCalls().leave(what));
        bounds("28: more(what) of a new one", 0, 1, what -> new StepCalls().more(what));
    }

    private static void dialsThatFail() {
        bounds("29: luck(v, 4, 0, 0)", 0, 10, v -> Given.part().luck(v, 4, 0, 0));
        bounds("29: luck(v, 4, 0, 1)", 0, 10, v -> Given.part().luck(v, 4, 0, 1));
        bounds("29: luck(1, 4, 0, what)", 0, 1, what -> Given.part().luck(1, 4, 0, what));
        only("29: luck(1, a, 3, 0)", a -> a >= 0 && a < Given.ONES && a != 3, -2, 9, a -> Given.part().luck(1, a, 3, 0));
        only("29: luck(1, 3, b, 0)", b -> b >= 0 && b < Given.ONES && b != 3, -2, 9, b -> Given.part().luck(1, 3, b, 0));
        only("29: luck(0, a, a, 0)", a -> false, -2, 9, a -> Given.part().luck(0, a, a, 0));
        bounds("30: mean(v, 0)", 0, 10, v -> Given.part().mean(v, 0));
        bounds("30: mean(v, 1)", 0, 10, v -> Given.part().mean(v, 1));
        bounds("30: mean(1, what)", 0, 1, what -> Given.part().mean(1, what));
    }

    private static void whichWay() {
        bounds("31: see(i, 0)", 0, 7, i -> Given.part().see(i, 0));
        bounds("31: see(0, fate)", 0, 6, fate -> Given.part().see(0, fate));
        bounds("32: forget(n)", 0, Given.SEEN, n -> Given.part().forget(n));
        bounds("32: forget(n) of as many as there may be", 0, 6, n -> Given.full().forget(n));
        bounds("32: forget(n) of nothing", 0, 0, n -> new StepCalls().forget(n));
        bounds("33: hunts(t)", 0, 4, t -> Given.part().hunts(t));
        bounds("34: deads(t)", 0, 4, t -> Given.part().deads(t));
        bounds("35: ask(t, 0)", 0, 4, t -> Given.part().ask(t, 0));
        bounds("35: ask(t, 1)", 0, 4, t -> Given.part().ask(t, 1));
        bounds("35: ask(1, what)", 0, 1, what -> Given.part().ask(1, what));
    }

    private static void bySeed() {
        bounds("36: drift(5, n, 0)", 1, 60, n -> Given.part().drift(5, n, 0));
        bounds("36: drift(5, n, 1)", 1, 60, n -> Given.part().drift(5, n, 1));
        bounds("36: drift(5, 9, what)", 0, 1, what -> Given.part().drift(5, 9, what));
        int[] seeds = {Integer.MIN_VALUE, -1, 0, 1, Integer.MAX_VALUE};
        for (int seed : seeds) {
            CHECK.due("36: any seed, " + seed, Given.part().drift(seed, 60, 0) < 0 ? 1 : 0, 0);
        }
    }

    private static void images() {
        bounds("37: keep(k)", 0, 1, k -> Given.part().keep(k));
        bounds("38: back(k)", 0, 1, k -> Given.part().back(k));
    }

    private static void sheets() {
        bounds("39: sheet(k, 0, 5)", 0, 3, k -> Given.part().sheet(k, 0, 5));
        bounds("39: sheet(0, lane, 5)", 0, 2, lane -> Given.part().sheet(0, lane, 5));
        IntFunction<String> name = n -> "39: sheet(0, 0, " + n + ")";
        int[] taken = {0, 1, 2, 39, 40};
        for (int n : taken) {
            CHECK.due(name.apply(n), Given.part().sheet(0, 0, n), 1);
        }
        int[] large = {41, 42, 256, 65536, Integer.MAX_VALUE};
        for (int n : large) {
            CHECK.due(name.apply(n), Given.part().sheet(0, 0, n), BAD);
        }
        int[] small = {-1, -2, -40, -256, Integer.MIN_VALUE};
        for (int n : small) {
            CHECK.due(name.apply(n), Given.part().sheet(0, 0, n), -14);
        }
        bounds("40: lay(k, 0, 5)", 0, 3, k -> Given.part().lay(k, 0, 5));
        bounds("41: read(k, 0, 0, 0)", 0, 3, k -> Given.part().read(k, 0, 0, 0));
        bounds("41: read(k, 0, 0, 1)", 0, 3, k -> Given.part().read(k, 0, 0, 1));
        bounds("41: read(3, lane, 0, 0)", 0, 2, lane -> Given.part().read(3, lane, 0, 0));
        bounds("41: read(3, lane, 0, 1)", 0, 2, lane -> Given.part().read(3, lane, 0, 1));
        bounds("41: read(3, 0, 0, n)", 0, 20, n -> Given.part().read(3, 0, 0, n));
        bounds("41: read(0, 0, 0, n)", 0, 20, n -> Given.full().read(1, 0, 0, n));
        bounds("43: count(what)", 0, 5, what -> Given.part().count(what));
    }

    private static StepCalls of(int ones) {
        StringBuilder text = new StringBuilder();
        for (int a = 0; a < ones; a++) {
            text.append("line").append(a < 5 ? a : 10).append(';');
        }
        return Check.of(text.toString());
    }

    /** "SUBSCRIBERS 0 on (6 at most, by order)": however many there are, the next one is none. */
    private static void onesThatThereAre() {
        for (int n = 0; n <= 6; n++) {
            int ones = n;
            CHECK.due("4: ONES told", of(ones).rule(0), ones);
            bounds("7: one(a, 0) of " + n, 0, n - 1, a -> of(ones).one(a, 0));
            bounds("7: one(a, 3) of " + n, 0, n - 1, a -> of(ones).one(a, 3));
            bounds("11: number(a, 44) of " + n, 0, n - 1, a -> of(ones).number(a, 44));
            bounds("16: plan(a, 99) of " + n, 0, n - 1, a -> of(ones).plan(a, 99));
            bounds("18: dial(a, 44) of " + n, 0, n - 1, a -> of(ones).dial(a, 44));
            bounds("19: hang(a) of " + n, 0, n - 1, a -> of(ones).hang(a));
            bounds("22: ahead(a) of " + n, 0, n - 1, a -> of(ones).ahead(a));
            if (n > 0) {
                bounds("29: luck(1, a, 0, 0) of " + n, 1, n - 1, a -> of(ones).luck(1, a, 0, 0));
                bounds("29: luck(1, 0, b, 0) of " + n, 1, n - 1, b -> of(ones).luck(1, 0, b, 0));
            }
        }
    }

    /** "WAYS (0 to 4; 1 at first)": however many there are, the next one is none. */
    private static void waysThatThereAre() {
        for (int n = 0; n <= 4; n++) {
            int ways = n;
            IntFunction<StepCalls> made = t -> {
                StepCalls x = of(1);
                x.ways(t, ways);
                return x;
            };
            for (int t = 0; t < 5; t++) {
                int group = t;
                bounds("9: uses(" + t + ", w) of " + n, 0, n - 1, w -> made.apply(group).uses(group, w));
                bounds("15: dead(" + t + ", w, true) of " + n, 0, n - 1, w -> made.apply(group).dead(group, w, true));
                bounds("15: dead(" + t + ", w, false) of " + n, 0, n - 1, w -> made.apply(group).dead(group, w, false));
            }
        }
    }

    /** "THE PLAN: ACTS, one behind another (8 at most)": however many there are, the next one is none. */
    private static void actsThatThereAre() {
        for (int n = 0; n <= 8; n++) {
            int acts = n;
            IntFunction<StepCalls> made = i -> {
                StepCalls x = of(1);
                for (int j = 0; j < acts; j++) {
                    x.plan(0, 99);
                }
                return x;
            };
            bounds("10: act(i, 0) of " + n, 0, n - 1, i -> made.apply(i).act(i, 0));
            bounds("10: act(i, 1) of " + n, 0, n - 1, i -> made.apply(i).act(i, 1));
            bounds("17: cut(n) of " + n, 0, n, i -> made.apply(i).cut(i));
            bounds("21: fate(i) of " + n, 0, n - 1, i -> made.apply(i).fate(i));
            bounds("31: see(i, 0) of a PLAN of " + n, 0, 7, i -> made.apply(i).see(i, 0));
        }
    }

    private static void seenThatThereAre() {
        for (int n = 0; n <= 6; n++) {
            int seen = n;
            bounds("32: forget(n) of " + n, 0, n, i -> {
                StepCalls x = new StepCalls();
                for (int j = 0; j < seen; j++) {
                    x.see(7, 6);
                }
                return x.forget(i);
            });
        }
    }

    /** "SHEETS .. with 0 to 40 CELLS": however many there are, the next one is none (INDEX), nor is one ahead of the first. */
    private static void cellsThatThereAre() {
        int[] sizes = {0, 1, 2, 3, 39, 40};
        for (int size : sizes) {
            for (int lane = 0; lane < 3; lane++) {
                StepCalls x = of(1);
                x.sheet(2, lane, size);
                for (int i = -2; i <= 42; i++) {
                    CHECK.due("40: lay(2, " + i + ", 5) of " + size, x.lay(2, i, 5), i >= 0 && i < size ? 1 : -12);
                }
                CHECK.due("40: lay(2, MAX, 5) of " + size, x.lay(2, Integer.MAX_VALUE, 5), -12);
                CHECK.due("40: lay(2, MIN, 5) of " + size, x.lay(2, Integer.MIN_VALUE, 5), -12);
                StepCalls y = of(1);
                y.sheet(2, lane, size);
                for (int f = -3; f <= 42; f++) {
                    boolean whole = f >= 0 && f + 1 < size;
                    CHECK.due("41: read(2, " + lane + ", " + f + ", 1) of " + size, y.read(2, lane, f, 1), whole ? 1 : 0);
                    CHECK.due("42: torn() by read(2, " + lane + ", " + f + ", 1) of " + size, y.torn(), whole ? 0 : 2);
                }
            }
        }
    }
}
