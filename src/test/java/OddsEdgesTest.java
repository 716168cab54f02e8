/** Edges that stand in single sentences of the promises 29 to 38. */
public final class OddsEdgesTest {
    private static final Check CHECK = new Check("OddsEdgesTest");
    private static final int BAD = StepCalls.BAD, NONE = StepCalls.NONE;

    public static void main(String[] args) {
        oddsAtTheEnds();
        oddsOfAll();
        lowestTerms();
        seenAgain();
        askedAtTheWorst();
        eachActMayBeAsked();
        askedAgain();
        driftAtTheEnds();
        driftFromCalls();
        imagesByTwos();
        whatAnImageIsNot();
        CHECK.finish();
    }

    /** 29, 30: "fails by v out of ten (0 to 10)". */
    private static void oddsAtTheEnds() {
        StepCalls x = Check.of("line 11;line 22;line 33;line 44;plan 0 22 2 22 0 99 3 33;");
        fraction("30: none fails", x.mean(0, 0), x.mean(0, 1), 1, 1);
        fraction("30: all fail", x.mean(10, 0), x.mean(10, 1), 0, 1);
        fraction("29: none fails", x.luck(0, 2, 3, 0), x.luck(0, 2, 3, 1), 1, 1);
        fraction("29: all fail", x.luck(10, 2, 3, 0), x.luck(10, 2, 3, 1), 0, 1);
        fraction("29: one out of ten", x.luck(1, 2, 3, 0), x.luck(1, 2, 3, 1), 819, 1000);
        fraction("29: nine out of ten", x.luck(9, 2, 3, 0), x.luck(9, 2, 3, 1), 91, 1000);
        x.dial(0, 22);
        fraction("29: to hang up never fails", x.luck(10, 0, 1, 0), x.luck(10, 0, 1, 1), 0, 1);
        x.cut(2);
        fraction("29: a call that is there already", x.luck(10, 1, 0, 0), x.luck(10, 1, 0, 1), 1, 1);
    }

    /** 29, 30: as many ACTS as there may be. */
    private static void oddsOfAll() {
        StepCalls x = Check.of("line 11;line 22;");
        for (int i = 0; i < 8; i++) {
            x.plan(0, 22);
        }
        for (int v = 0; v <= 10; v++) {
            long none = 1;
            long all = 1;
            for (int i = 0; i < 8; i++) {
                none *= v;
                all *= 10;
            }
            long common = divisor(all - none, all);
            fraction("29: one of eight comes, " + v, x.luck(v, 0, 1, 0), x.luck(v, 0, 1, 1), (all - none) / common, all / common);
        }
        StepCalls y = Check.of("line 11;line 22;");
        for (int i = 0; i < 8; i++) {
            y.plan(0, 11);
        }
        for (int v = 0; v <= 10; v++) {
            long common = divisor(8 * (10 - v), 10);
            fraction("30: eight LOST, " + v, y.mean(v, 0), y.mean(v, 1), 8 * (10 - v) / common, 10 / common);
        }
        StepCalls z = Check.of("line 11;line 22;");
        for (int i = 0; i < 8; i++) {
            z.plan(0, 99);
        }
        fraction("30: eight hang up", z.mean(5, 0), z.mean(5, 1), 0, 1);
        fraction("29: eight hang up", z.luck(5, 0, 1, 0), z.luck(5, 0, 1, 1), 0, 1);
    }

    /** "Fractions are in lowest terms .. (0 is 0 by 1)". */
    private static void lowestTerms() {
        StepCalls x = Check.of("line 11;line 22;plan 0 22;");
        int[][] due = {{1, 1}, {9, 10}, {4, 5}, {7, 10}, {3, 5}, {1, 2}, {2, 5}, {3, 10}, {1, 5}, {1, 10}, {0, 1}};
        for (int v = 0; v <= 10; v++) {
            fraction("29: one dial, " + v, x.luck(v, 0, 1, 0), x.luck(v, 0, 1, 1), due[v][0], due[v][1]);
            fraction("30: none LOST, " + v, x.mean(v, 0), x.mean(v, 1), 0, 1);
        }
    }

    /** 31, 33: one ACT may be SEEN more than once; SEEN twice alike is as SEEN once. */
    private static void seenAgain() {
        StepCalls x = Check.of("line 11;line 22;plan 0 22 0 99;");
        CHECK.due("31: see(0, 0)", x.see(0, 0), 1);
        CHECK.due("31: see(0, 0) again", x.see(0, 0), 2);
        CHECK.due("33: alike", x.hunts(2), 15);
        CHECK.due("34: alike", x.deads(2), 1);
        CHECK.due("31: to hang up has FATE 0", x.see(1, 0), 3);
        CHECK.due("33: to hang up has FATE 0", x.hunts(2), 15);
        CHECK.due("31: not alike", x.see(0, 3), 4);
        CHECK.due("33: not alike", x.hunts(2), 0);
        CHECK.due("34: not alike", x.deads(2), 0);
        CHECK.due("32: forget(3)", x.forget(3), 4);
        x.see(2, 6);
        CHECK.due("33: there is no third ACT", x.hunts(2), 0);
        x.plan(0, 99);
        CHECK.due("33: there is one now, passed over", x.hunts(2), 15);
        x.cut(2);
        CHECK.due("33: there is none again", x.hunts(2), 0);
    }

    /** 35: "so that .. fewest are left at the worst, fewer than now". */
    private static void askedAtTheWorst() {
        StepCalls x = Check.of("line 11;line 22;on 1 4;plan 1 10 1 10 1 10 1 10;");
        int[] least = {8, 4, 2, 1};
        for (int i = 0; i < 4; i++) {
            CHECK.due("35: the ACT to ask", x.ask(1, 0), i);
            CHECK.due("35: half are left", x.ask(1, 1), least[i]);
            x.see(i, i % 2 == 0 ? 3 : 4);
        }
        CHECK.due("34: one set is left", x.deads(1), 1 << 5);
        CHECK.due("35: none to ask", x.ask(1, 0), NONE);
        CHECK.due("35: none to ask", x.ask(1, 1), NONE);
        StepCalls y = Check.of("line 11;line 22;home 1 2;plan 1 10 1 10;");
        y.see(0, 4);
        CHECK.due("34: home never takes the second", y.deads(1), 1 | 1 << 2);
        CHECK.due("35: as many as now are left", y.ask(1, 0), NONE);
    }

    /** 35: each one of a full PLAN. */
    private static void eachActMayBeAsked() {
        for (int i = 0; i < 8; i++) {
            StepCalls x = Check.of("line 11;line 22;plan;");
            for (int j = 0; j < 8; j++) {
                x.plan(0, j == i ? 20 : 99);
            }
            CHECK.due("35: ask(2, 0)", x.ask(2, 0), i);
            CHECK.due("35: ask(2, 1)", x.ask(2, 1), 1);
            x.see(i, 3);
            CHECK.due("34: it is SEEN", x.deads(2), 2);
        }
    }

    /** 35: "at the worst" may be that he is passed over; asked again it is as it was. */
    private static void askedAgain() {
        StepCalls x = Check.of("line 11;line 12;line 13;on 1 3;plan 1 13 2 11 0 11;");
        for (int i = 0; i < 5; i++) {
            // the third: he himself by three sets, silence by three, passed over by two
            CHECK.due("35: ask(1, 0) again", x.ask(1, 0), 2);
            CHECK.due("35: ask(1, 1) again", x.ask(1, 1), 3);
        }
    }

    /** 36: "n times (1 to 60)". */
    private static void driftAtTheEnds() {
        StepCalls x = Check.of("line 11;line 22;line 33;");
        CHECK.due("36: n 0", x.drift(9, 0, 0), BAD);
        CHECK.due("36: n 61", x.drift(9, 61, 1), BAD);
        for (int seed = -3; seed <= 3; seed++) {
            int before = 0;
            for (int n = 1; n <= 60; n++) {
                int lost = x.drift(seed, n, 0);
                CHECK.due("36: one more is LOST, or none", lost == before || lost == before + 1 ? 1 : 0, 1);
                before = lost;
            }
        }
    }

    /** 36: "(as it would be; nothing is changed)": from the calls that there are, with the FINDERS, WAYS that there are. */
    private static void driftFromCalls() {
        StepCalls x = Check.of("line 11;line 22;line 33;home 1 0;home 2 0;home 3 0;");
        CHECK.due("36: no WAYS: each is LOST", x.drift(1, 60, 0), 60);
        CHECK.due("36: no WAYS: no calls", x.drift(1, 60, 1), 0);
        x.ways(2, 1);
        x.dial(0, 22);
        x.ways(1, 1);
        CHECK.due("36: a call that is there may stay", x.drift(0, 1, 1), 0);
        CHECK.due("36: ONE 0 hung up, none is LOST", x.drift(0, 1, 0), 0);
        CHECK.due("6: nothing is changed", x.rule(2), 1);
    }

    private static void imagesByTwos() {
        StepCalls x = Check.of("line 11;line 22;line 33;line 44;plan 0 22;");
        CHECK.due("37: none there was", x.keep(1), 0);
        x.dial(0, 22);
        x.cut(0);
        x.see(3, 3);
        CHECK.due("37: none there was", x.keep(0), 0);
        x.hang(0);
        CHECK.due("38: back(0)", x.back(0), 1);
        CHECK.due("38: its PLAN", x.rule(3), 0);
        CHECK.due("38: what was SEEN", x.count(0), 1);
        CHECK.due("38: back(1)", x.back(1), 0);
        CHECK.due("38: its PLAN", x.act(0, 1), 22);
        CHECK.due("38: what was SEEN", x.count(0), 0);
        x.dial(2, 44);
        CHECK.due("37: one there was", x.keep(1), 1);
        x.back(0);
        CHECK.due("38: back(1), the later one", x.back(1), 1);
        CHECK.due("38: who is in a call", x.rule(5), 12);
    }

    /** 37: what an IMAGE is told to be; THE TAPE, SHEETS, the other IMAGE, FAULTS are none of it. */
    private static void whatAnImageIsNot() {
        StepCalls x = Check.of("line 11;line 22;");
        x.keep(0);
        Check.text(x, "x");
        Check.feed(x, "line 0");
        Check.fill(x, 1, 0, 22, 3);
        x.read(1, 0, 0, 1);
        x.keep(1);
        x.back(0);
        CHECK.due("5: fault() stays", x.fault(), 2);
        CHECK.due("43: THE TAPE stays", x.count(2), 6);
        CHECK.due("43: SHEETS stay", x.count(3), 3);
        CHECK.due("42: torn() stays", x.torn(), 1);
        CHECK.due("43: IMAGES stay", x.count(1), 2);
        CHECK.due("41: CELLS stay", x.read(0, 1, 0, 1), 1);
        CHECK.due("6: they are dialled", x.rule(2), 1);
    }

    private static long divisor(long p, long q) {
        return q == 0 ? p : divisor(q, p % q);
    }

    private static void fraction(String name, long above, long below, long dueAbove, long dueBelow) {
        CHECK.due(name + ", above", above, dueAbove);
        CHECK.due(name + ", below", below, dueBelow);
    }
}
