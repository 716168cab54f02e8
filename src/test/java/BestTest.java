/** Promises 23 to 28: what is best. */
public final class BestTest {
    private static final Check CHECK = new Check("BestTest");
    private static final int BAD = StepCalls.BAD, NONE = StepCalls.NONE;

    public static void main(String[] args) {
        need();
        needNoFewerThanHeld();
        few();
        grade();
        swap();
        leave();
        more();
        byTheFace();
        CHECK.finish();
    }

    private static void need() {
        StepCalls x = Check.of("line 11;line 12;line 13;line 14;line 10;line 44;finders 6;home 1 0;plan 0 12 2 14 4 44;");
        CHECK.due("23: need(1)", x.need(1), 2);
        CHECK.due("23: need(4)", x.need(4), 1);
        CHECK.due("23: need(0), which none dials", x.need(0), 0);
        CHECK.due("23: need(5)", x.need(5), BAD);
        CHECK.due("23: need(-1)", x.need(-1), BAD);
        CHECK.due("23: WAYS stay", x.group(1, 1), 0);
        x.cut(0);
        x.plan(0, 99);
        CHECK.due("23: to hang up wants no WAY", x.need(1), 0);
        x.cut(0);
        x.plan(0, 20);
        CHECK.due("23: who dials nobody wants a WAY", x.need(2), 1);
        x.finders(1);
        x.ways(1, 1);
        x.dial(0, 12);
        x.cut(0);
        x.plan(2, 20);
        CHECK.due("23: LOST for want of a FINDER is not for want of a WAY", x.need(2), 0);
    }

    private static void needNoFewerThanHeld() {
        StepCalls x = Check.of("line 11;line 22;line 33;line 44;back 1 3;");
        x.dial(1, 11);
        CHECK.due("23: the third is held", x.need(1), 3);
        x.hunt(1, 0);
        x.dial(2, 12);
        CHECK.due("23: what is held counts from the first on", x.need(1), 3);
        x.plan(2, 12);
        CHECK.due("23: one is free among them", x.need(1), 3);
        x.hang(0);
        CHECK.due("23: none is held", x.need(1), 1);
        // a call that the plan lets alone holds the only WAY whatever there is more
        StepCalls y = Check.of("line 11;line 22;line 33;line 44;line 10;line 20;finders 6;home 1 4;plan 0 11;");
        CHECK.due("23: one at a time", y.need(1), 1);
    }

    private static void few() {
        StepCalls x = Check.of("line 11;line 12;line 13;line 14;line 10;line 44;finders 1;home 1 4;plan 0 12 2 13 2 14 4 44;");
        CHECK.due("24: few()", x.few(), 3);
        CHECK.due("24: FINDERS stay", x.rule(1), 1);
        x.cut(3);
        CHECK.due("24: few() of two calls", x.few(), 2);
        x.cut(0);
        CHECK.due("24: few() of no ACTS", x.few(), 1);
        x.finders(6);
        x.dial(0, 12);
        x.dial(2, 14);
        CHECK.due("24: no fewer than calls", x.few(), 2);
        x.plan(0, 99);
        x.plan(4, 44);
        CHECK.due("24: one goes, one comes", x.few(), 2);
        CHECK.due("24: few() of a new one", new StepCalls().few(), 1);
    }

    private static void grade() {
        StepCalls x = Check.of("line 11;line 22;line 33;home 1 2;plan 1 11;");
        x.dead(1, 0, true);
        CHECK.due("25: grade(1, 0): the last is not DEAD", x.grade(1, 0), 2);
        CHECK.due("25: grade(1, 1)", x.grade(1, 1), 0);
        CHECK.due("25: grade(2, 0): of several the first", x.grade(2, 0), 0);
        CHECK.due("25: grade(2, 1)", x.grade(2, 1), 1);
        x.plan(1, 10);
        CHECK.due("25: grade(1, 0) of more", x.grade(1, 0), 2);
        x.dial(1, 10);
        CHECK.due("25: on goes on from the LATEST", x.grade(1, 0), 1);
        x.dead(1, 1, true);
        x.cut(1);
        CHECK.due("25: all alike", x.grade(1, 0), 0);
        CHECK.due("25: all alike", x.grade(1, 1), 1);
        x.ways(1, 3);
        x.hunt(1, 2);
        x.dead(1, 2, true);
        x.dead(1, 1, false);
        x.dial(1, 10);
        x.hunt(1, 0);
        x.dial(1, 10);
        x.dial(1, 10);
        // USES 3, 0, 1; LATEST 0
        CHECK.due("25: USES", 100 * x.uses(1, 0) + 10 * x.uses(1, 1) + x.uses(1, 2), 301);
        CHECK.due("25: on takes it", x.grade(1, 0), 1);
        x.hunt(1, 2);
        x.dial(1, 10);
        x.dead(1, 0, true);
        // USES 3, 0, 2; LATEST 2: on takes the first, spread the second
        CHECK.due("25: spread takes it", x.grade(1, 0), 3);
        CHECK.due("25: HUNT stays", x.group(1, 0), 2);
        int[] wrong = {-1, 5};
        for (int t : wrong) {
            CHECK.due("25: grade(" + t + ", 0)", x.grade(t, 0), BAD);
        }
        CHECK.due("25: grade(0, 2)", x.grade(0, 2), BAD);
        CHECK.due("25: grade(0, -1)", x.grade(0, -1), BAD);
    }

    private static void swap() {
        StepCalls x = Check.of("line 11;line 22;line 33;line 44;home 3 0;plan 0 22;");
        CHECK.due("26: none is LOST", x.swap(0), NONE);
        CHECK.due("26: none is LOST", x.swap(1), NONE);
        x.cut(0);
        x.plan(0, 11);
        CHECK.due("26: he dials himself", x.swap(0), 1);
        CHECK.due("26: he dials himself", x.swap(1), 0);
        x.cut(0);
        x.plan(2, 10);
        x.plan(0, 11);
        CHECK.due("26: nobody stays nobody", x.swap(0), 1);
        CHECK.due("26: nobody stays nobody", x.swap(1), 1);
        x.cut(0);
        x.plan(0, 11);
        x.plan(2, 33);
        // by 01: 0 dials 1, 2 has no WAY; by 02: 0 dials 2, who is passed over then
        CHECK.due("26: who is passed over is not LOST", x.swap(0), 2);
        CHECK.due("26: who is passed over is not LOST", x.swap(1), 0);
        x.ways(3, 1);
        x.dial(0, 22);
        CHECK.due("26: who are in a call do not change", x.swap(0), 23);
        CHECK.due("26: NUMBERS stay", x.one(0, 0), 11);
        x.cut(0);
        x.plan(3, 22);
        CHECK.due("26: busy", x.swap(0), NONE);
        CHECK.due("26: swap(2)", x.swap(2), BAD);
        CHECK.due("26: swap(-1)", x.swap(-1), BAD);
    }

    private static void leave() {
        StepCalls x = Check.of("line 11;line 22;line 33;line 44;line 10;plan 0 22 2 22 3 11 4 44;");
        // connected, busy, busy, connected
        CHECK.due("27: leave(0)", x.leave(0), 0);
        CHECK.due("27: leave(1)", x.leave(1), 1);
        x.cut(0);
        x.plan(0, 22);
        x.plan(0, 99);
        x.plan(1, 22);
        CHECK.due("27: the one who dials himself", x.leave(0), 1);
        CHECK.due("27: a hanging up may be left out", x.leave(1), 0);
        x.cut(2);
        CHECK.due("27: none is LOST", x.leave(0), NONE);
        CHECK.due("27: none is LOST", x.leave(1), NONE);
        CHECK.due("27: leave(2)", x.leave(2), BAD);
        CHECK.due("27: leave(-1)", x.leave(-1), BAD);
        x.cut(0);
        CHECK.due("27: no ACTS", x.leave(0), NONE);
        CHECK.due("27: THE PLAN stays", x.plan(0, 99), 1);
    }

    private static void more() {
        StepCalls x = Check.of("line 11;line 22;line 33;line 44;home 2 0;home 3 0;finders 6;plan 0 22 2 33 3 33;");
        // by 2: the first comes; by 3: the third comes, the second dials himself
        CHECK.due("28: more(0): of several the first", x.more(0), 2);
        CHECK.due("28: more(1)", x.more(1), 2);
        x.cut(2);
        x.number(2, 30);
        x.number(1, 33);
        CHECK.due("28: more(0): the later one", x.more(0), 3);
        CHECK.due("28: more(1): the later one", x.more(1), 1);
        x.number(1, 22);
        x.number(2, 33);
        x.cut(1);
        CHECK.due("28: more(0)", x.more(0), 2);
        CHECK.due("28: more(1)", x.more(1), 0);
        x.plan(2, 33);
        CHECK.due("28: two alike, the first", x.more(0), 2);
        x.ways(2, 4);
        for (int w = 0; w < 4; w++) {
            x.dead(2, w, true);
        }
        x.cut(1);
        CHECK.due("28: 4 at most", x.more(0), NONE);
        x.ways(2, 3);
        CHECK.due("28: home takes the DEAD ones", x.more(0), NONE);
        x.hunt(2, 2);
        CHECK.due("28: the one more is not DEAD", x.more(0), 2);
        CHECK.due("28: WAYS stay", x.group(2, 1), 3);
        CHECK.due("28: more(2)", x.more(2), BAD);
        CHECK.due("28: more(-1)", x.more(-1), BAD);
    }

    /** What the calls of this part answer, found by changing one that is made anew and running it. */
    private static void byTheFace() {
        for (int seed = 0; seed < 300; seed++) {
            StepCalls x = made(seed);
            int lost = x.runs(1);
            compareGrade(seed, seed % 5);
            compareSwap(seed, lost);
            compareMore(seed, lost);
            compareLeave(seed, lost);
            compareNeed(seed, seed % 5);
            compareFew(seed);
        }
    }

    private static StepCalls made(int seed) {
        return new Dice(seed).exchange();
    }

    private static void compareGrade(int seed, int t) {
        int which = NONE;
        int fewest = 99;
        for (int kind = 0; kind < 4; kind++) {
            StepCalls y = made(seed);
            y.hunt(t, kind);
            int lost = y.runs(1);
            if (lost < fewest) {
                fewest = lost;
                which = kind;
            }
        }
        StepCalls x = made(seed);
        CHECK.due("25: grade(" + t + ", 0) of " + seed, x.grade(t, 0), which);
        CHECK.due("25: grade(" + t + ", 1) of " + seed, x.grade(t, 1), fewest);
    }

    private static void compareSwap(int seed, int lost) {
        int which = NONE;
        int fewest = lost;
        StepCalls x = made(seed);
        for (int a = 0; a < x.rule(0); a++) {
            for (int b = a + 1; b < x.rule(0); b++) {
                StepCalls y = made(seed);
                if (y.one(a, 2) == 0 && y.one(b, 2) == 0) {
                    int was = y.number(a, spareNumber(y));
                    y.number(a, y.number(b, was));
                    if (y.runs(1) < fewest) {
                        fewest = y.runs(1);
                        which = 10 * a + b;
                    }
                }
            }
        }
        CHECK.due("26: swap(0) of " + seed, x.swap(0), which);
        CHECK.due("26: swap(1) of " + seed, x.swap(1), which == NONE ? NONE : fewest);
    }

    private static int spareNumber(StepCalls x) {
        boolean[] taken = new boolean[45];
        for (int a = 0; a < x.rule(0); a++) {
            taken[x.one(a, 0)] = true;
        }
        int n = 0;
        while (taken[n] || n % 10 > 4) {
            n++;
        }
        return n;
    }

    private static void compareMore(int seed, int lost) {
        int which = NONE;
        int fewest = lost;
        for (int t = 0; t < 5; t++) {
            StepCalls y = made(seed);
            if (y.ways(t, y.group(t, 1) + 1) >= 0 && y.runs(1) < fewest) {
                fewest = y.runs(1);
                which = t;
            }
        }
        StepCalls x = made(seed);
        CHECK.due("28: more(0) of " + seed, x.more(0), which);
        CHECK.due("28: more(1) of " + seed, x.more(1), which == NONE ? NONE : fewest);
    }

    private static void compareLeave(int seed, int lost) {
        int which = NONE;
        int fewest = lost;
        StepCalls x = made(seed);
        for (int i = 0; i < x.rule(3); i++) {
            StepCalls y = made(seed);
            y.cut(i);
            for (int j = i + 1; j < x.rule(3); j++) {
                y.plan(x.act(j, 0), x.act(j, 1));
            }
            if (y.runs(1) < fewest) {
                fewest = y.runs(1);
                which = i;
            }
        }
        CHECK.due("27: leave(0) of " + seed, x.leave(0), which);
        CHECK.due("27: leave(1) of " + seed, x.leave(1), which == NONE ? NONE : fewest);
    }

    private static void compareNeed(int seed, int t) {
        int found = NONE;
        for (int n = 4; n >= 0; n--) {
            StepCalls y = made(seed);
            if (y.ways(t, n) >= 0 && !hasFate(y, 2, t)) {
                found = n;
            }
        }
        CHECK.due("23: need(" + t + ") of " + seed, made(seed).need(t), found);
    }

    private static void compareFew(int seed) {
        int found = NONE;
        for (int n = 6; n >= 1; n--) {
            StepCalls y = made(seed);
            if (y.finders(n) >= 0 && !hasFate(y, 1, NONE)) {
                found = n;
            }
        }
        CHECK.due("24: few() of " + seed, made(seed).few(), found);
    }

    private static boolean hasFate(StepCalls x, int fate, int t) {
        for (int i = 0; i < x.rule(3); i++) {
            if (x.fate(i) == fate && (t == NONE || x.act(i, 1) / 10 == t)) {
                return true;
            }
        }
        return false;
    }
}
