/** Promises 31 to 35: which way, which hunt it was. */
public final class SeenTest {
    private static final Check CHECK = new Check("SeenTest");
    private static final int BAD = StepCalls.BAD, FULL = StepCalls.FULL, NONE = StepCalls.NONE;

    public static void main(String[] args) {
        seeAndForget();
        hunts();
        deads();
        ask();
        askOfWhoIsPassedOver();
        byTheFace();
        CHECK.finish();
    }

    private static void seeAndForget() {
        StepCalls x = new StepCalls();
        CHECK.due("31: see(8, 0)", x.see(8, 0), BAD);
        CHECK.due("31: see(-1, 0)", x.see(-1, 0), BAD);
        CHECK.due("31: see(0, 7)", x.see(0, 7), BAD);
        CHECK.due("31: see(0, -1)", x.see(0, -1), BAD);
        for (int i = 1; i <= 6; i++) {
            CHECK.due("31: see(7, 6)", x.see(7, 6), i);
        }
        CHECK.due("31: see(7, 6) as the 7th", x.see(7, 6), FULL);
        CHECK.due("31: see(8, 6) as the 7th", x.see(8, 6), BAD);
        CHECK.due("32: forget(7)", x.forget(7), BAD);
        CHECK.due("32: forget(-1)", x.forget(-1), BAD);
        CHECK.due("32: forget(6)", x.forget(6), 6);
        CHECK.due("32: forget(2)", x.forget(2), 6);
        CHECK.due("32: count(0)", x.count(0), 2);
        CHECK.due("32: forget(0)", x.forget(0), 2);
        CHECK.due("32: forget(0) again", x.forget(0), 0);
    }

    private static void hunts() {
        StepCalls x = Check.of("line 11;line 22;line 33;home 1 3;plan 1 10 1 11;");
        CHECK.due("33: nothing is SEEN", x.hunts(1), 15);
        x.dead(1, 0, true);
        x.see(1, 3);
        CHECK.due("33: home alone comes home", x.hunts(1), 1);
        CHECK.due("33: of another GROUP", x.hunts(2), 15);
        x.see(1, 0);
        CHECK.due("33: SEEN is against itself", x.hunts(1), 0);
        x.forget(0);
        x.see(0, 4);
        CHECK.due("33: back takes the last", x.hunts(1), 4);
        x.forget(0);
        x.see(2, 0);
        CHECK.due("33: an ACT that there is not", x.hunts(1), 0);
        CHECK.due("34: an ACT that there is not", x.deads(1), 0);
        x.plan(1, 99);
        CHECK.due("33: the ACT that there is now", x.hunts(1), 14);
        CHECK.due("33: HUNT stays", x.group(1, 0), 0);
        CHECK.due("33: hunts(5)", x.hunts(5), BAD);
        CHECK.due("33: hunts(-1)", x.hunts(-1), BAD);
    }

    private static void deads() {
        StepCalls x = Check.of("line 11;line 22;line 33;on 1 3;home 2 4;home 3 0;plan 1 10 1 10 1 11;");
        CHECK.due("34: nothing is SEEN", x.deads(1), 255);
        CHECK.due("34: nothing is SEEN, four WAYS", x.deads(2), 65535);
        CHECK.due("34: nothing is SEEN, no WAYS", x.deads(3), 1);
        x.see(0, 3);
        CHECK.due("34: the first is DEAD", x.deads(1), 1 << 1 | 1 << 3 | 1 << 5 | 1 << 7);
        x.see(1, 4);
        CHECK.due("34: the second is not", x.deads(1), 1 << 1 | 1 << 5);
        x.see(2, 0);
        CHECK.due("34: nor is the third", x.deads(1), 1 << 1);
        CHECK.due("34: of another GROUP, the first being not DEAD", x.deads(2), 0);
        x.dead(1, 0, true);
        CHECK.due("34: of another GROUP", x.deads(2), 65535);
        CHECK.due("34: of this one, whichever are DEAD now", x.deads(1), 1 << 1);
        CHECK.due("34: DEAD ones stay", x.group(1, 2), 1);
        CHECK.due("34: deads(5)", x.deads(5), BAD);
        CHECK.due("34: deads(-1)", x.deads(-1), BAD);
    }

    private static void ask() {
        StepCalls x = Check.of("line 11;line 22;line 33;on 1 2;plan 1 99 1 10 1 10;");
        CHECK.due("35: ask(1, 0)", x.ask(1, 0), 1);
        CHECK.due("35: ask(1, 1)", x.ask(1, 1), 2);
        x.see(1, 3);
        CHECK.due("35: ask(1, 0) with one SEEN", x.ask(1, 0), 2);
        CHECK.due("35: ask(1, 1) with one SEEN", x.ask(1, 1), 1);
        x.see(2, 3);
        CHECK.due("35: one set is left", x.ask(1, 0), NONE);
        x.see(2, 4);
        CHECK.due("35: no set is left", x.ask(1, 0), NONE);
        x.forget(0);
        CHECK.due("35: none tells of that GROUP", x.ask(2, 0), NONE);
        CHECK.due("35: none tells of that GROUP", x.ask(2, 1), NONE);
        x.cut(1);
        CHECK.due("35: none tells", x.ask(1, 1), NONE);
        x.cut(0);
        CHECK.due("35: no ACTS", x.ask(1, 0), NONE);
        CHECK.due("35: ask(5, 0)", x.ask(5, 0), BAD);
        CHECK.due("35: ask(-1, 0)", x.ask(-1, 0), BAD);
        CHECK.due("35: ask(0, 2)", x.ask(0, 2), BAD);
        CHECK.due("35: ask(0, -1)", x.ask(0, -1), BAD);
    }

    private static void askOfWhoIsPassedOver() {
        StepCalls x = Check.of("line 11;line 22;on 1 2;plan 1 11 1 11 1 20;");
        // the third is passed over by three sets of four, dials nobody by one; the first tells two from two
        CHECK.due("35: the worst may be who is passed over", x.ask(1, 0), 0);
        CHECK.due("35: the worst may be who is passed over", x.ask(1, 1), 2);
    }

    /** What is told, found by changing one that is made anew and running it. */
    private static void byTheFace() {
        for (int seed = 0; seed < 300; seed++) {
            StepCalls x = made(seed);
            int t = x.rule(3) > 0 && x.act(0, 1) != 99 ? x.act(0, 1) / 10 : seed % 5;
            Dice dice = new Dice(seed + 1000);
            int[][] seen = new int[dice.next(4)][];
            for (int j = 0; j < seen.length; j++) {
                int i = dice.next(8);
                int fate = x.fate(i) >= 0 && dice.next(5) > 0 ? x.fate(i) : dice.next(7);
                seen[j] = new int[] {i, fate};
                x.see(i, fate);
            }
            compareHunts(x, seed, t, seen);
            compareDeads(x, seed, t, seen);
        }
    }

    private static StepCalls made(int seed) {
        return new Dice(seed).exchange();
    }

    private static void compareHunts(StepCalls x, int seed, int t, int[][] seen) {
        int due = 0;
        for (int kind = 0; kind < 4; kind++) {
            StepCalls y = made(seed);
            y.hunt(t, kind);
            due |= asSeen(y, seen) ? 1 << kind : 0;
        }
        CHECK.due("33: hunts(" + t + ") of " + seed, x.hunts(t), due);
    }

    private static void compareDeads(StepCalls x, int seed, int t, int[][] seen) {
        int due = 0;
        int[][] tally = new int[8][7];
        int total = 0;
        int size = x.group(t, 1);
        int acts = x.rule(3);
        for (int set = 0; set < 1 << size; set++) {
            StepCalls y = made(seed);
            for (int w = 0; w < size; w++) {
                y.dead(t, w, (set >> w & 1) == 1);
            }
            if (asSeen(y, seen)) {
                due |= 1 << set;
                total++;
                for (int i = 0; i < acts; i++) {
                    tally[i][y.fate(i)]++;
                }
            }
        }
        CHECK.due("34: deads(" + t + ") of " + seed, x.deads(t), due);
        int which = NONE;
        int least = total;
        for (int i = 0; i < acts; i++) {
            int worst = 0;
            for (int n : tally[i]) {
                worst = Math.max(worst, n);
            }
            if (worst < least) {
                least = worst;
                which = i;
            }
        }
        CHECK.due("35: ask(" + t + ", 0) of " + seed, x.ask(t, 0), which);
        CHECK.due("35: ask(" + t + ", 1) of " + seed, x.ask(t, 1), which == NONE ? NONE : least);
    }

    private static boolean asSeen(StepCalls y, int[][] seen) {
        for (int[] pair : seen) {
            if (y.fate(pair[0]) != pair[1]) {
                return false;
            }
        }
        return true;
    }
}
