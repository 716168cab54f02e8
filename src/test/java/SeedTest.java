/** Promise 36: days by a seed. */
public final class SeedTest {
    private static final Check CHECK = new Check("SeedTest");

    public static void main(String[] args) {
        wrong();
        byHand();
        againstTheDocument();
        CHECK.finish();
    }

    private static void wrong() {
        StepCalls x = new StepCalls();
        CHECK.due("36: nobody", x.drift(1, 1, 0), StepCalls.STATE);
        CHECK.due("36: nobody and n 0", x.drift(1, 0, 0), StepCalls.BAD);
        Check.text(x, "line 11;");
        CHECK.due("36: n 0", x.drift(1, 0, 0), StepCalls.BAD);
        CHECK.due("36: n 61", x.drift(1, 61, 0), StepCalls.BAD);
        CHECK.due("36: n -1", x.drift(1, -1, 0), StepCalls.BAD);
        CHECK.due("36: what 2", x.drift(1, 1, 2), StepCalls.BAD);
        CHECK.due("36: what -1", x.drift(1, 1, -1), StepCalls.BAD);
        CHECK.due("36: n 60", x.drift(1, 60, 0), 60);
        CHECK.due("36: nothing is changed", x.rule(4), 0);
    }

    private static void byHand() {
        // seed 0 becomes 12345: got is 0, ONE 0 dials ONE 0; he is busy
        StepCalls x = Check.of("line 11;line 22;");
        CHECK.due("36: drift(0, 1, 0)", x.drift(0, 1, 0), 1);
        CHECK.due("36: drift(0, 1, 1)", x.drift(0, 1, 1), 0);
        x.dial(0, 22);
        CHECK.due("36: in a call he hangs up, not LOST", x.drift(0, 1, 0), 0);
        CHECK.due("36: in a call he hangs up", x.drift(0, 1, 1), 0);
        CHECK.due("36: the call stays", x.rule(2), 1);
    }

    /** The same days, dialled call by call on an object of its own. */
    private static void againstTheDocument() {
        int[] seeds = {1, -1, 7, 99, 123456, Integer.MAX_VALUE, Integer.MIN_VALUE, -77777};
        for (int seed : seeds) {
            String text = "line 11;line 22;line 33;line 44;line 12;spread 1 2;finders 2;";
            StepCalls x = Check.of(text);
            StepCalls y = Check.of(text);
            int[] now = {seed, 0};
            for (int n = 1; n <= 60; n++) {
                day(y, now);
                CHECK.due("36: drift(" + seed + ", " + n + ", 0)", x.drift(seed, n, 0), now[1]);
                CHECK.due("36: drift(" + seed + ", " + n + ", 1)", x.drift(seed, n, 1), y.rule(2));
            }
        }
    }

    private static void day(StepCalls y, int[] now) {
        long next = (now[0] & 0xffffffffL) * 1103515245L + 12345L;
        now[0] = (int) next;
        int got = (int) (next % (1L << 31) / (1L << 16));
        if (got < 0) {
            got += 1 << 15;
        }
        int a = got % 5;
        if (y.one(a, 2) != 0) {
            y.hang(a);
        } else if (y.dial(a, y.one(got / 8 % 5, 0)) != 0) {
            now[1]++;
        }
    }
}
