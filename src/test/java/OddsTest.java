/** Promises 29 and 30: dials that fail. */
public final class OddsTest {
    private static final Check CHECK = new Check("OddsTest");
    private static final int BAD = StepCalls.BAD;

    public static void main(String[] args) {
        luck();
        mean();
        wrong();
        byTheFace();
        CHECK.finish();
    }

    private static void luck() {
        StepCalls x = Check.of("line 11;line 22;line 33;plan 0 22 1 33;");
        // 0 with 1 if the first comes; 1 with 2 if it fails and the second comes
        fraction("29: luck(3, 0, 1)", x.luck(3, 0, 1, 0), x.luck(3, 0, 1, 1), 7, 10);
        fraction("29: luck(3, 1, 0)", x.luck(3, 1, 0, 0), x.luck(3, 1, 0, 1), 7, 10);
        fraction("29: luck(3, 1, 2)", x.luck(3, 1, 2, 0), x.luck(3, 1, 2, 1), 21, 100);
        fraction("29: luck(4, 1, 2)", x.luck(4, 1, 2, 0), x.luck(4, 1, 2, 1), 6, 25);
        fraction("29: luck(3, 0, 2)", x.luck(3, 0, 2, 0), x.luck(3, 0, 2, 1), 0, 1);
        fraction("29: luck(0, 0, 1)", x.luck(0, 0, 1, 0), x.luck(0, 0, 1, 1), 1, 1);
        fraction("29: luck(0, 1, 2)", x.luck(0, 1, 2, 0), x.luck(0, 1, 2, 1), 0, 1);
        fraction("29: luck(10, 0, 1)", x.luck(10, 0, 1, 0), x.luck(10, 0, 1, 1), 0, 1);
        x.plan(0, 99);
        fraction("29: to hang up never fails", x.luck(3, 0, 1, 0), x.luck(3, 0, 1, 1), 0, 1);
        fraction("29: of those who dial", x.luck(3, 1, 2, 0), x.luck(3, 1, 2, 1), 21, 100);
        x.cut(0);
        fraction("29: no ACTS, no call", x.luck(5, 0, 1, 0), x.luck(5, 0, 1, 1), 0, 1);
        x.dial(0, 22);
        fraction("29: no ACTS, a call", x.luck(5, 0, 1, 0), x.luck(5, 0, 1, 1), 1, 1);
        for (int i = 0; i < 8; i++) {
            x.plan(2, 33);
        }
        fraction("29: eight ACTS, a call", x.luck(9, 0, 1, 0), x.luck(9, 0, 1, 1), 1, 1);
        CHECK.due("29: nothing is changed", x.rule(4), 1);
    }

    private static void mean() {
        StepCalls x = Check.of("line 11;line 22;line 33;plan 0 11 1 22 2 99;");
        fraction("30: mean(0)", x.mean(0, 0), x.mean(0, 1), 2, 1);
        fraction("30: mean(3)", x.mean(3, 0), x.mean(3, 1), 7, 5);
        fraction("30: mean(10)", x.mean(10, 0), x.mean(10, 1), 0, 1);
        x.cut(0);
        fraction("30: mean of no ACTS", x.mean(5, 0), x.mean(5, 1), 0, 1);
        for (int i = 0; i < 8; i++) {
            x.plan(2, 33);
        }
        fraction("30: mean(5) of eight", x.mean(5, 0), x.mean(5, 1), 4, 1);
        fraction("30: mean(7) of eight", x.mean(7, 0), x.mean(7, 1), 12, 5);
        fraction("30: mean(1) of eight", x.mean(1, 0), x.mean(1, 1), 36, 5);
        x.cut(0);
        x.plan(0, 22);
        x.plan(2, 22);
        // the second is busy if the first came
        fraction("30: mean(1)", x.mean(1, 0), x.mean(1, 1), 81, 100);
        CHECK.due("30: nothing is changed", x.rule(4), 0);
    }

    private static void fraction(String name, long above, long below, long dueAbove, long dueBelow) {
        CHECK.due(name + ", above", above, dueAbove);
        CHECK.due(name + ", below", below, dueBelow);
    }

    private static void wrong() {
        StepCalls x = Check.of("line 11;line 22;");
        long[] answers = {
            x.luck(-1, 0, 1, 0), x.luck(11, 0, 1, 0), x.luck(5, 2, 1, 0), x.luck(5, -1, 1, 0), x.luck(5, 0, 2, 0),
            x.luck(5, 0, -1, 0), x.luck(5, 1, 1, 0), x.luck(5, 0, 1, 2), x.luck(5, 0, 1, -1),
            x.mean(-1, 0), x.mean(11, 0), x.mean(5, 2), x.mean(5, -1)
        };
        for (int i = 0; i < answers.length; i++) {
            CHECK.due((i < 9 ? "29" : "30") + ": wrong input " + i, answers[i], BAD);
        }
    }

    /** Each choice of ACTS put into THE PLAN of one that is made anew, run, and weighed. */
    private static void byTheFace() {
        for (int seed = 0; seed < 60; seed++) {
            StepCalls x = made(seed);
            if (x.rule(0) < 2) {
                continue;
            }
            int v = seed % 11;
            int a = seed % x.rule(0);
            int b = (a + 1 + seed % (x.rule(0) - 1)) % x.rule(0);
            long[] due = choices(seed, v, a, b);
            // by crossing, so that the terms themselves need not be found twice
            CHECK.due("29: by the face", x.luck(v, a, b, 0) * due[2], due[0] * x.luck(v, a, b, 1));
            CHECK.due("30: by the face", x.mean(v, 0) * due[2], due[1] * x.mean(v, 1));
            CHECK.due("29: in lowest terms", common(x.luck(v, a, b, 0), x.luck(v, a, b, 1)), 1);
            CHECK.due("30: in lowest terms", common(x.mean(v, 0), x.mean(v, 1)), 1);
        }
    }

    private static StepCalls made(int seed) {
        return new Dice(seed).exchange();
    }

    private static long[] choices(int seed, int v, int a, int b) {
        StepCalls x = made(seed);
        int acts = x.rule(3);
        int[] who = new int[acts];
        int[] what = new int[acts];
        for (int i = 0; i < acts; i++) {
            who[i] = x.act(i, 0);
            what[i] = x.act(i, 1);
        }
        long[] sums = new long[3];
        for (int left = 0; left < 1 << acts; left++) {
            StepCalls y = made(seed);
            y.cut(0);
            long weight = 1;
            for (int i = 0; i < acts; i++) {
                boolean out = (left >> i & 1) == 1;
                weight *= what[i] == 99 ? (out ? 0 : 1) : out ? v : 10 - v;
                if (!out) {
                    y.plan(who[i], what[i]);
                }
            }
            sums[0] += y.ahead(a) == b ? weight : 0;
            sums[1] += weight * y.runs(1);
            sums[2] += weight;
        }
        return sums;
    }

    private static long common(long p, long q) {
        return q == 0 ? p : common(q, p % q);
    }
}
