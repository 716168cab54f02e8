/** Edges that stand in single sentences of the promises 11 to 38, and in no other test. */
public final class EdgesTest {
    private static final Check CHECK = new Check("EdgesTest");
    private static final int BAD = StepCalls.BAD, STATE = StepCalls.STATE, NONE = StepCalls.NONE;

    public static void main(String[] args) {
        ownNumber();
        findersAndCalls();
        waysAndCalls();
        waysThatStay();
        aWayIsFreeAtOnce();
        deadWhileHeld();
        whoHangsUp();
        connectedByThePlan();
        passedOver();
        needsAndCalls();
        needBeyondWhatIs();
        needCountsItsOwnGroup();
        needTakesWaysAway();
        fewBeyondWhatIs();
        fewCountsFinders();
        moreIsNew();
        oddsAtTheEnds();
        oddsOfAll();
        lowestTerms();
        seenAgain();
        askedAtTheWorst();
        driftAtTheEnds();
        driftFromCalls();
        imagesByTwos();
        whatAnImageIsNot();
        CHECK.finish();
    }

    /** 11: "BAD (also one of another ONE)": his own is none of another. */
    private static void ownNumber() {
        StepCalls x = Check.of("line 11;line 0;");
        CHECK.due("11: his own", x.number(0, 11), 11);
        CHECK.due("11: of another", x.number(0, 0), BAD);
        CHECK.due("11: another, then nobody's", x.number(1, 44), 0);
        CHECK.due("11: nobody's now", x.number(0, 0), 11);
        CHECK.due("18: nobody has the one that he had", x.dial(1, 11), 4);
        CHECK.due("18: he has the one that he got", x.dial(1, 0), 0);
        CHECK.due("11: in a call, his own", x.number(0, 0), STATE);
    }

    /** 12: "STATE: there are more calls": as many are not more. */
    private static void findersAndCalls() {
        for (int calls = 0; calls <= 3; calls++) {
            for (int n = 1; n <= 6; n++) {
                StepCalls x = Check.of("line0;line10;line20;line30;line40;line44;finders6;");
                for (int c = 0; c < calls; c++) {
                    x.dial(c, c == 0 ? 30 : c == 1 ? 40 : 44);
                }
                x.ways(4, 4);
                if (calls == 3) {
                    x.dial(2, 44);
                }
                CHECK.due("6: calls", x.rule(2), calls);
                CHECK.due("12: finders(" + n + "), calls " + calls, x.finders(n), n < calls ? STATE : 6);
                CHECK.due("6: FINDERS then", x.rule(1), n < calls ? 6 : n);
            }
        }
    }

    /** 14: "STATE: a call holds one of them that would go". */
    private static void waysAndCalls() {
        for (int held = 0; held < 4; held++) {
            for (int n = 0; n <= 4; n++) {
                StepCalls x = Check.of("line 11;line 22;line 33;on 1 4;");
                for (int i = 0; i < held; i++) {
                    x.dial(1, 10);
                }
                x.dial(1, 11);
                CHECK.due("7: the WAY that is held", x.one(1, 3), 10 + held);
                CHECK.due("14: ways(1, " + n + "), " + held + " is held", x.ways(1, n), n <= held ? STATE : 4);
                CHECK.due("8: WAYS then", x.group(1, 1), n <= held ? 4 : n);
                CHECK.due("8: it is held still", x.group(1, 3), 1 << held);
                x.hang(0);
                CHECK.due("14: it is free", x.ways(1, n), n <= held ? 4 : n);
            }
        }
    }

    /** 14: "the first ones stay (with what they are; those that come anew are not DEAD, have no USES ..)". */
    private static void waysThatStay() {
        for (int n = 0; n <= 4; n++) {
            StepCalls x = Check.of("line 11;home 1 4;");
            for (int w = 0; w < 4; w++) {
                x.hunt(1, 1);
                x.dial(0, 10);
                x.dead(1, w, true);
            }
            x.dial(0, 10);
            CHECK.due("14: ways(1, " + n + ")", x.ways(1, n), 4);
            CHECK.due("8: DEAD ones that stay", x.group(1, 2), (1 << n) - 1);
            CHECK.due("43: DEAD ones that stay", x.count(5), n);
            CHECK.due("6: USES that stay", x.rule(4), n == 0 ? 0 : n + 1);
            CHECK.due("14: ways(1, 4)", x.ways(1, 4), n);
            CHECK.due("8: those that come anew are not DEAD", x.group(1, 2), (1 << n) - 1);
            for (int w = 0; w < 4; w++) {
                CHECK.due("9: USES of " + w + " of " + n, x.uses(1, w), w >= n ? 0 : w == 0 ? 2 : 1);
            }
        }
    }

    /** 18: "by 3, 4, 5 the WAY is free again at once". */
    private static void aWayIsFreeAtOnce() {
        StepCalls x = Check.of("line 11;line 22;line 33;finders 1;");
        for (int i = 1; i <= 3; i++) {
            CHECK.due("18: nobody", x.dial(0, 20), 4);
            CHECK.due("18: he himself", x.dial(1, 22), 5);
            CHECK.due("9: two USES more", x.uses(2, 0), 2 * i);
            CHECK.due("8: it is free", x.group(2, 3), 0);
            CHECK.due("6: no FINDER is held", x.rule(2), 0);
        }
        x.dead(2, 0, true);
        CHECK.due("18: silence", x.dial(0, 22), 3);
        CHECK.due("18: silence, the WAY being free", x.dial(0, 22), 3);
        x.dead(2, 0, false);
        CHECK.due("18: it is free for a call", x.dial(0, 22), 0);
        CHECK.due("8: it is held now", x.group(2, 3), 1);
    }

    /** 15: a WAY that is held may be DEAD: the call stays. */
    private static void deadWhileHeld() {
        StepCalls x = Check.of("line 11;line 22;");
        x.dial(0, 22);
        CHECK.due("15: dead(2, 0, true)", x.dead(2, 0, true), 0);
        CHECK.due("7: the call stays", x.one(0, 1), 1);
        CHECK.due("19: hang(0)", x.hang(0), 1);
        CHECK.due("18: silence from now on", x.dial(0, 22), 3);
        CHECK.due("15: dead(2, 0, false)", x.dead(2, 0, false), 1);
        CHECK.due("18: no silence from now on", x.dial(0, 22), 0);
    }

    /** "CONNECTED: the call holds a FINDER, that WAY and both ONES till one of them hangs up". */
    private static void whoHangsUp() {
        for (int who = 0; who < 2; who++) {
            StepCalls x = Check.of("line 11;line 22;finders 1;");
            x.dial(0, 22);
            CHECK.due("19: hang(" + who + ")", x.hang(who), 1 - who);
            CHECK.due("6: no call, no FINDER is held", x.rule(2) + x.rule(5), 0);
            CHECK.due("8: no WAY is held", x.group(2, 3), 0);
            for (int a = 0; a < 2; a++) {
                CHECK.due("7: with nobody", x.one(a, 1), NONE);
                CHECK.due("7: in none", x.one(a, 2), 0);
                CHECK.due("7: no WAY", x.one(a, 3), NONE);
                CHECK.due("19: hang(" + a + ") in none", x.hang(a), STATE);
            }
            CHECK.due("18: once more, the other one", x.dial(1, 11), 0);
            CHECK.due("7: he called", x.one(1, 2), 1);
            CHECK.due("7: he was called", x.one(0, 2), 2);
        }
    }

    /** 20: "how many are CONNECTED in it (to hang up is none of these)". */
    private static void connectedByThePlan() {
        StepCalls x = Check.of("line 11;line 22;line 33;plan 0 22 0 99 1 11 0 99;");
        int[] due = {2, 0, NONE, 0, 0};
        for (int i = 0; i < due.length; i++) {
            CHECK.due("20: runs(" + i + ")", x.runs(i), due[i]);
        }
        for (int i = 0; i < 4; i++) {
            CHECK.due("21: to hang up is FATE 0, too", x.fate(i), 0);
        }
    }

    /** "who dials in a call, who hangs up in none, is passed over (FATE 6)". */
    private static void passedOver() {
        StepCalls x = Check.of("line 11;line 22;line 33;home 3 0;plan 2 99 0 22 0 33 1 10 1 99 1 99;");
        int[] due = {6, 0, 6, 6, 0, 6};
        for (int i = 0; i < due.length; i++) {
            CHECK.due("21: fate(" + i + ")", x.fate(i), due[i]);
        }
        CHECK.due("20: passed over", x.runs(4), 4);
        CHECK.due("20: none of them is LOST", x.runs(1), 0);
        CHECK.due("20: none of them is CONNECTED", x.runs(0), 1);
    }

    /** 23: "(no fewer than calls hold there, counted from the first on)". */
    private static void needsAndCalls() {
        for (int held = 0; held < 4; held++) {
            StepCalls x = Check.of("line 11;line 22;line 33;on 1 4;");
            for (int i = 0; i < held; i++) {
                x.dial(1, 10);
            }
            x.dial(1, 11);
            CHECK.due("23: WAY " + held + " is held", x.need(1), held + 1);
            x.plan(2, 13);
            CHECK.due("23: WAY " + held + " is held, one more is wanted", x.need(1), held == 0 ? 2 : held + 1);
            x.hang(0);
            CHECK.due("23: none is held, one is wanted", x.need(1), 1);
        }
    }

    /** 23: more WAYS than there are, up to 4. */
    private static void needBeyondWhatIs() {
        StepCalls x = Check.of("line0;line10;line11;line12;line13;line14;finders6;home1 0;plan0 10 2 12 4 14;");
        CHECK.due("23: none there are, three are wanted", x.need(1), 3);
        x.cut(2);
        CHECK.due("23: two are wanted", x.need(1), 2);
        x.ways(1, 4);
        CHECK.due("23: four there are, two are wanted", x.need(1), 2);
        x.dial(0, 10);
        x.dial(2, 12);
        x.cut(0);
        x.plan(4, 14);
        x.plan(4, 99);
        x.plan(5, 10);
        CHECK.due("23: two are held, one more at a time is wanted", x.need(1), 3);
        CHECK.due("8: nothing is changed", x.group(1, 1), 4);
    }

    /** 23: "LOST for want of a WAY in it": of that GROUP, not of another one, nor for want of a FINDER. */
    private static void needCountsItsOwnGroup() {
        StepCalls x = Check.of("line 11;line 22;line 33;line 44;home 1 0;home 2 0;plan 0 22 2 11;");
        CHECK.due("23: need(1), whatever 2 wants", x.need(1), 1);
        CHECK.due("23: need(2), whatever 1 wants", x.need(2), 1);
        CHECK.due("23: need(3)", x.need(3), 0);
        x.finders(1);
        x.dial(2, 44);
        x.cut(0);
        x.plan(0, 22);
        CHECK.due("23: for want of a FINDER", x.need(2), 0);
    }

    /** 23: the WAYS that go take the LATEST, what is DEAD and USES with them. */
    private static void needTakesWaysAway() {
        StepCalls x = Check.of("line 11;line 22;line 33;home 1 4;plan 1 11 2 10;");
        CHECK.due("23: both at once", x.need(1), 2);
        x.dead(1, 0, true);
        CHECK.due("23: the first is DEAD: free again at once", x.need(1), 1);
        x.hunt(1, 1);
        x.dial(1, 10);
        // by 1 WAY the DEAD one alone is taken
        CHECK.due("23: on, from the second on: by one it goes round", x.need(1), 1);
    }

    private static void fewBeyondWhatIs() {
        StepCalls x = Check.of("line0;line10;line20;line30;line40;line44;finders1;home4 2;plan0 10 2 30 4 44;");
        CHECK.due("24: one there is, three are wanted", x.few(), 3);
        x.finders(6);
        CHECK.due("24: six there are, three are wanted", x.few(), 3);
        x.dial(0, 10);
        CHECK.due("24: the first dials in a call", x.few(), 3);
        x.cut(0);
        CHECK.due("24: as many as calls", x.few(), 1);
        x.dial(2, 30);
        x.dial(4, 44);
        CHECK.due("24: as many as calls", x.few(), 3);
        x.plan(0, 99);
        x.plan(0, 10);
        CHECK.due("24: one goes, one comes", x.few(), 3);
        CHECK.due("6: nothing is changed", x.rule(1), 6);
    }

    /** 24: "LOST for want of one": not for want of a WAY, not otherwise. */
    private static void fewCountsFinders() {
        StepCalls x = Check.of("line 11;line 22;line 33;line 44;finders 6;home 2 0;plan 0 22 0 10 0 11 2 44;");
        CHECK.due("24: all but one are LOST otherwise", x.few(), 1);
        CHECK.due("24: how many are", x.runs(1), 3);
        x.plan(1, 10);
        CHECK.due("24: nobody has 10, but a FINDER is wanted", x.few(), 2);
    }

    /** 28: "one WAY more": it comes anew, behind the last. */
    private static void moreIsNew() {
        StepCalls x = Check.of("line 11;line 22;line 33;back 2 3;plan 0 22;");
        for (int w = 0; w < 3; w++) {
            x.dead(2, w, true);
        }
        CHECK.due("28: back takes the new one, which is not DEAD", x.more(0), 2);
        CHECK.due("28: none is LOST", x.more(1), 0);
        x.hunt(2, 0);
        CHECK.due("28: home takes a DEAD one", x.more(0), NONE);
        x.hunt(2, 3);
        x.dial(0, 20);
        CHECK.due("28: spread takes one of no USES, from behind the LATEST on", x.more(0), NONE);
        x.dial(0, 20);
        x.dial(0, 20);
        CHECK.due("28: spread takes the new one, of no USES", x.more(0), 2);
        x.ways(2, 4);
        x.dead(2, 3, true);
        CHECK.due("28: 4 at most", x.more(0), NONE);
    }

    /** 29, 30: "fails by v out of ten (0 to 10)". */
    private static void oddsAtTheEnds() {
        StepCalls x = Check.of("line 11;line 22;line 33;line 44;plan 0 22 2 22 0 99 3 33;");
        fraction("30: none fails", x.mean(0, 0), x.mean(0, 1), 1, 1);
        fraction("30: all fail", x.mean(10, 0), x.mean(10, 1), 0, 1);
        fraction("29: none fails", x.luck(0, 2, 3, 0), x.luck(0, 2, 3, 1), 1, 1);
        fraction("29: all fail", x.luck(10, 2, 3, 0), x.luck(10, 2, 3, 1), 0, 1);
        fraction("29: one out of ten", x.luck(1, 2, 3, 0), x.luck(1, 2, 3, 1), 819, 1000);
        fraction("29: nine out of ten", x.luck(9, 2, 3, 0), x.luck(9, 2, 3, 1), 91, 1000);
        x.dial(0, 22);
        fraction("29: to hang up never fails", x.luck(10, 0, 1, 0), x.luck(10, 0, 1, 1), 0, 1);
        x.cut(2);
        fraction("29: a call that is there already", x.luck(10, 1, 0, 0), x.luck(10, 1, 0, 1), 1, 1);
    }

    /** 29, 30: as many ACTS as there may be. */
    private static void oddsOfAll() {
        StepCalls x = Check.of("line 11;line 22;");
        for (int i = 0; i < 8; i++) {
            x.plan(0, 22);
        }
        for (int v = 0; v <= 10; v++) {
            long none = 1;
            long all = 1;
            for (int i = 0; i < 8; i++) {
                none *= v;
                all *= 10;
            }
            long common = divisor(all - none, all);
            fraction("29: one of eight comes, " + v, x.luck(v, 0, 1, 0), x.luck(v, 0, 1, 1), (all - none) / common, all / common);
        }
        StepCalls y = Check.of("line 11;line 22;");
        for (int i = 0; i < 8; i++) {
            y.plan(0, 11);
        }
        for (int v = 0; v <= 10; v++) {
            long common = divisor(8 * (10 - v), 10);
            fraction("30: eight LOST, " + v, y.mean(v, 0), y.mean(v, 1), 8 * (10 - v) / common, 10 / common);
        }
        StepCalls z = Check.of("line 11;line 22;");
        for (int i = 0; i < 8; i++) {
            z.plan(0, 99);
        }
        fraction("30: eight hang up", z.mean(5, 0), z.mean(5, 1), 0, 1);
        fraction("29: eight hang up", z.luck(5, 0, 1, 0), z.luck(5, 0, 1, 1), 0, 1);
    }

    /** "Fractions are in lowest terms .. (0 is 0 by 1)". */
    private static void lowestTerms() {
        StepCalls x = Check.of("line 11;line 22;plan 0 22;");
        int[][] due = {{1, 1}, {9, 10}, {4, 5}, {7, 10}, {3, 5}, {1, 2}, {2, 5}, {3, 10}, {1, 5}, {1, 10}, {0, 1}};
        for (int v = 0; v <= 10; v++) {
            fraction("29: one dial, " + v, x.luck(v, 0, 1, 0), x.luck(v, 0, 1, 1), due[v][0], due[v][1]);
            fraction("30: none LOST, " + v, x.mean(v, 0), x.mean(v, 1), 0, 1);
        }
    }

    private static long divisor(long p, long q) {
        return q == 0 ? p : divisor(q, p % q);
    }

    private static void fraction(String name, long above, long below, long dueAbove, long dueBelow) {
        CHECK.due(name + ", above", above, dueAbove);
        CHECK.due(name + ", below", below, dueBelow);
    }

    /** 31, 33: one ACT may be SEEN more than once; SEEN twice alike is as SEEN once. */
    private static void seenAgain() {
        StepCalls x = Check.of("line 11;line 22;plan 0 22 0 99;");
        CHECK.due("31: see(0, 0)", x.see(0, 0), 1);
        CHECK.due("31: see(0, 0) again", x.see(0, 0), 2);
        CHECK.due("33: alike", x.hunts(2), 15);
        CHECK.due("34: alike", x.deads(2), 1);
        CHECK.due("31: to hang up has FATE 0", x.see(1, 0), 3);
        CHECK.due("33: to hang up has FATE 0", x.hunts(2), 15);
        CHECK.due("31: not alike", x.see(0, 3), 4);
        CHECK.due("33: not alike", x.hunts(2), 0);
        CHECK.due("34: not alike", x.deads(2), 0);
        CHECK.due("32: forget(3)", x.forget(3), 4);
        x.see(2, 6);
        CHECK.due("33: there is no third ACT", x.hunts(2), 0);
        x.plan(0, 99);
        CHECK.due("33: there is one now, passed over", x.hunts(2), 15);
        x.cut(2);
        CHECK.due("33: there is none again", x.hunts(2), 0);
    }

    /** 35: "so that .. fewest are left at the worst, fewer than now". */
    private static void askedAtTheWorst() {
        StepCalls x = Check.of("line 11;line 22;on 1 4;plan 1 10 1 10 1 10 1 10;");
        int[] least = {8, 4, 2, 1};
        for (int i = 0; i < 4; i++) {
            CHECK.due("35: the ACT to ask", x.ask(1, 0), i);
            CHECK.due("35: half are left", x.ask(1, 1), least[i]);
            x.see(i, i % 2 == 0 ? 3 : 4);
        }
        CHECK.due("34: one set is left", x.deads(1), 1 << 5);
        CHECK.due("35: none to ask", x.ask(1, 0), NONE);
        CHECK.due("35: none to ask", x.ask(1, 1), NONE);
        StepCalls y = Check.of("line 11;line 22;home 1 2;plan 1 10 1 10;");
        y.see(0, 4);
        CHECK.due("34: home never takes the second", y.deads(1), 1 | 1 << 2);
        CHECK.due("35: as many as now are left", y.ask(1, 0), NONE);
    }

    /** 36: "n times (1 to 60)". */
    private static void driftAtTheEnds() {
        StepCalls x = Check.of("line 11;line 22;line 33;");
        CHECK.due("36: n 0", x.drift(9, 0, 0), BAD);
        CHECK.due("36: n 61", x.drift(9, 61, 1), BAD);
        for (int seed = -3; seed <= 3; seed++) {
            int before = 0;
            for (int n = 1; n <= 60; n++) {
                int lost = x.drift(seed, n, 0);
                CHECK.due("36: one more is LOST, or none", lost == before || lost == before + 1 ? 1 : 0, 1);
                before = lost;
            }
        }
    }

    /** 36: "(as it would be; nothing is changed)": from the calls that there are, with the FINDERS, WAYS that there are. */
    private static void driftFromCalls() {
        StepCalls x = Check.of("line 11;line 22;line 33;home 1 0;home 2 0;home 3 0;");
        CHECK.due("36: no WAYS: each is LOST", x.drift(1, 60, 0), 60);
        CHECK.due("36: no WAYS: no calls", x.drift(1, 60, 1), 0);
        x.ways(2, 1);
        x.dial(0, 22);
        x.ways(1, 1);
        CHECK.due("36: a call that is there may stay", x.drift(0, 1, 1), 0);
        CHECK.due("36: ONE 0 hung up, none is LOST", x.drift(0, 1, 0), 0);
        CHECK.due("6: nothing is changed", x.rule(2), 1);
    }

    private static void imagesByTwos() {
        StepCalls x = Check.of("line 11;line 22;line 33;line 44;plan 0 22;");
        CHECK.due("37: none there was", x.keep(1), 0);
        x.dial(0, 22);
        x.cut(0);
        x.see(3, 3);
        CHECK.due("37: none there was", x.keep(0), 0);
        x.hang(0);
        CHECK.due("38: back(0)", x.back(0), 1);
        CHECK.due("38: its PLAN", x.rule(3), 0);
        CHECK.due("38: what was SEEN", x.count(0), 1);
        CHECK.due("38: back(1)", x.back(1), 0);
        CHECK.due("38: its PLAN", x.act(0, 1), 22);
        CHECK.due("38: what was SEEN", x.count(0), 0);
        x.dial(2, 44);
        CHECK.due("37: one there was", x.keep(1), 1);
        x.back(0);
        CHECK.due("38: back(1), the later one", x.back(1), 1);
        CHECK.due("38: who is in a call", x.rule(5), 12);
    }

    /** 37: what an IMAGE is told to be; THE TAPE, SHEETS, the other IMAGE, FAULTS are none of it. */
    private static void whatAnImageIsNot() {
        StepCalls x = Check.of("line 11;line 22;");
        x.keep(0);
        Check.text(x, "x");
        Check.feed(x, "line 0");
        Check.fill(x, 1, 0, 22, 3);
        x.read(1, 0, 0, 1);
        x.keep(1);
        x.back(0);
        CHECK.due("5: fault() stays", x.fault(), 2);
        CHECK.due("43: THE TAPE stays", x.count(2), 6);
        CHECK.due("43: SHEETS stay", x.count(3), 3);
        CHECK.due("42: torn() stays", x.torn(), 1);
        CHECK.due("43: IMAGES stay", x.count(1), 2);
        CHECK.due("41: CELLS stay", x.read(0, 1, 0, 1), 1);
        CHECK.due("6: they are dialled", x.rule(2), 1);
    }
}
