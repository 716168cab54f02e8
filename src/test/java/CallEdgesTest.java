/** Edges that stand in single sentences of the promises 11 to 22. */
public final class CallEdgesTest {
    private static final Check CHECK = new Check("CallEdgesTest");
    private static final int BAD = StepCalls.BAD, STATE = StepCalls.STATE, NONE = StepCalls.NONE;

    public static void main(String[] args) {
        theLastCall();
        firstFigures();
        eachFateIsLost();
        ownNumber();
        findersAndCalls();
        waysAndCalls();
        waysThatStay();
        aWayIsFreeAtOnce();
        deadWhileHeld();
        whoHangsUp();
        connectedByThePlan();
        passedOver();
        CHECK.finish();
    }

    /** "An object is used for at most 512 calls": the 512th is as the first. */
    private static void theLastCall() {
        StepCalls x = new StepCalls();
        for (int i = 0; i < 160; i++) {
            x.feed("line 0;line 44;".charAt(i % 15));
        }
        x.end(15);
        CHECK.due("4: text()", x.text(), 2);
        for (int i = 162; i < 511; i++) {
            CHECK.due("18: calls go on", i % 2 == 0 ? x.dial(0, 44) : x.hang(1), 0);
        }
        CHECK.due("6: the 512th call", x.rule(4), 175);
    }

    /** "GROUPS 0 to 4, one for each first figure". */
    private static void firstFigures() {
        for (int first = 0; first <= 4; first++) {
            for (int second = 0; second <= 4; second++) {
                StepCalls x = Check.of("line 0;plan;");
                int n = 10 * first + second;
                CHECK.due("18: nobody has " + n + ", or it is he", x.dial(0, n), n == 0 ? 5 : 4);
                for (int t = 0; t < 5; t++) {
                    CHECK.due("9: USES of " + t + " by " + n, x.uses(t, 0), t == first ? 1 : 0);
                    CHECK.due("8: the LATEST of " + t + " by " + n, x.group(t, 4), t == first ? 0 : NONE);
                }
                x.plan(0, n);
                for (int t = 0; t < 5; t++) {
                    CHECK.due("23: need(" + t + ") by " + n, x.need(t), t == first ? 1 : 0);
                }
            }
        }
    }

    /** "LOST is a DIAL of FATE 1 to 5": by the plan, by odds, by a seed. */
    private static void eachFateIsLost() {
        int[] finders = {6, 1, 6, 6, 6, 6, 6};
        int[] dialled = {33, 33, 33, 33, 30, 11, 99};
        for (int fate = 0; fate <= 6; fate++) {
            StepCalls x = Check.of("line 11;line 22;line 33;line 44;");
            x.dial(0, 22);
            x.finders(finders[fate]);
            x.ways(3, fate == 2 ? 0 : 1);
            x.ways(1, 4);
            x.dead(3, 0, fate == 3);
            x.plan(3, dialled[fate]);
            int lost = fate >= 1 && fate <= 5 ? 1 : 0;
            CHECK.due("21: the FATE " + fate, x.fate(0), fate);
            CHECK.due("20: CONNECTED by " + fate, x.runs(0), fate == 0 ? 1 : 0);
            CHECK.due("20: LOST by " + fate, x.runs(1), lost);
            CHECK.due("20: the first LOST by " + fate, x.runs(2), lost == 1 ? 0 : NONE);
            CHECK.due("20: calls by " + fate, x.runs(3), fate == 0 ? 2 : 1);
            CHECK.due("20: passed over by " + fate, x.runs(4), fate == 6 ? 1 : 0);
            CHECK.due("30: mean by " + fate, x.mean(0, 0), lost);
            CHECK.due("25: LOST by " + fate, x.grade(0, 1), lost);
            CHECK.due("27: to be left out by " + fate, x.leave(0), lost == 1 ? 0 : NONE);
            x.see(0, fate);
            CHECK.due("33: SEEN " + fate, x.hunts(0), 15);
            if (fate < 6) {
                CHECK.due("18: dialled " + fate, x.dial(3, dialled[fate]), fate);
            }
        }
    }

    /** 11: "BAD (also one of another ONE)": his own is none of another. */
    private static void ownNumber() {
        StepCalls x = Check.of("line 11;line 0;");
        CHECK.due("11: his own", x.number(0, 11), 11);
        CHECK.due("11: of another", x.number(0, 0), BAD);
        CHECK.due("11: another, then nobody's", x.number(1, 44), 0);
        CHECK.due("11: nobody's now", x.number(0, 0), 11);
        CHECK.due("18: nobody has the one that he had", x.dial(1, 11), 4);
        CHECK.due("18: he has the one that he got", x.dial(1, 0), 0);
        CHECK.due("11: in a call, his own", x.number(0, 0), STATE);
    }

    /** 12: "STATE: there are more calls": as many are not more. */
    private static void findersAndCalls() {
        for (int calls = 0; calls <= 3; calls++) {
            for (int n = 1; n <= 6; n++) {
                StepCalls x = Check.of("line0;line10;line20;line30;line40;line44;finders6;");
                for (int c = 0; c < calls; c++) {
                    x.dial(c, c == 0 ? 30 : c == 1 ? 40 : 44);
                }
                x.ways(4, 4);
                if (calls == 3) {
                    x.dial(2, 44);
                }
                CHECK.due("6: calls", x.rule(2), calls);
                CHECK.due("12: finders(" + n + "), calls " + calls, x.finders(n), n < calls ? STATE : 6);
                CHECK.due("6: FINDERS then", x.rule(1), n < calls ? 6 : n);
            }
        }
    }

    /** 14: "STATE: a call holds one of them that would go". */
    private static void waysAndCalls() {
        for (int held = 0; held < 4; held++) {
            for (int n = 0; n <= 4; n++) {
                StepCalls x = Check.of("line 11;line 22;line 33;on 1 4;");
                for (int i = 0; i < held; i++) {
                    x.dial(1, 10);
                }
                x.dial(1, 11);
                CHECK.due("7: the WAY that is held", x.one(1, 3), 10 + held);
                CHECK.due("14: ways(1, " + n + "), " + held + " is held", x.ways(1, n), n <= held ? STATE : 4);
                CHECK.due("8: WAYS then", x.group(1, 1), n <= held ? 4 : n);
                CHECK.due("8: it is held still", x.group(1, 3), 1 << held);
                x.hang(0);
                CHECK.due("14: it is free", x.ways(1, n), n <= held ? 4 : n);
            }
        }
    }

    /** 14: "the first ones stay (with what they are; those that come anew are not DEAD, have no USES ..)". */
    private static void waysThatStay() {
        for (int n = 0; n <= 4; n++) {
            StepCalls x = Check.of("line 11;home 1 4;");
            for (int w = 0; w < 4; w++) {
                x.hunt(1, 1);
                x.dial(0, 10);
                x.dead(1, w, true);
            }
            x.dial(0, 10);
            CHECK.due("14: ways(1, " + n + ")", x.ways(1, n), 4);
            CHECK.due("8: DEAD ones that stay", x.group(1, 2), (1 << n) - 1);
            CHECK.due("43: DEAD ones that stay", x.count(5), n);
            CHECK.due("6: USES that stay", x.rule(4), n == 0 ? 0 : n + 1);
            CHECK.due("14: ways(1, 4)", x.ways(1, 4), n);
            CHECK.due("8: those that come anew are not DEAD", x.group(1, 2), (1 << n) - 1);
            for (int w = 0; w < 4; w++) {
                CHECK.due("9: USES of " + w + " of " + n, x.uses(1, w), w >= n ? 0 : w == 0 ? 2 : 1);
            }
        }
    }

    /** 18: "by 3, 4, 5 the WAY is free again at once". */
    private static void aWayIsFreeAtOnce() {
        StepCalls x = Check.of("line 11;line 22;line 33;finders 1;");
        for (int i = 1; i <= 3; i++) {
            CHECK.due("18: nobody", x.dial(0, 20), 4);
            CHECK.due("18: he himself", x.dial(1, 22), 5);
            CHECK.due("9: two USES more", x.uses(2, 0), 2 * i);
            CHECK.due("8: it is free", x.group(2, 3), 0);
            CHECK.due("6: no FINDER is held", x.rule(2), 0);
        }
        x.dead(2, 0, true);
        CHECK.due("18: silence", x.dial(0, 22), 3);
        CHECK.due("18: silence, the WAY being free", x.dial(0, 22), 3);
        x.dead(2, 0, false);
        CHECK.due("18: it is free for a call", x.dial(0, 22), 0);
        CHECK.due("8: it is held now", x.group(2, 3), 1);
    }

    /** 15: a WAY that is held may be DEAD: the call stays. */
    private static void deadWhileHeld() {
        StepCalls x = Check.of("line 11;line 22;");
        x.dial(0, 22);
        CHECK.due("15: dead(2, 0, true)", x.dead(2, 0, true), 0);
        CHECK.due("7: the call stays", x.one(0, 1), 1);
        CHECK.due("19: hang(0)", x.hang(0), 1);
        CHECK.due("18: silence from now on", x.dial(0, 22), 3);
        CHECK.due("15: dead(2, 0, false)", x.dead(2, 0, false), 1);
        CHECK.due("18: no silence from now on", x.dial(0, 22), 0);
    }

    /** "CONNECTED: the call holds a FINDER, that WAY and both ONES till one of them hangs up". */
    private static void whoHangsUp() {
        for (int who = 0; who < 2; who++) {
            StepCalls x = Check.of("line 11;line 22;finders 1;");
            x.dial(0, 22);
            CHECK.due("19: hang(" + who + ")", x.hang(who), 1 - who);
            CHECK.due("6: no call, no FINDER is held", x.rule(2) + x.rule(5), 0);
            CHECK.due("8: no WAY is held", x.group(2, 3), 0);
            for (int a = 0; a < 2; a++) {
                CHECK.due("7: with nobody", x.one(a, 1), NONE);
                CHECK.due("7: in none", x.one(a, 2), 0);
                CHECK.due("7: no WAY", x.one(a, 3), NONE);
                CHECK.due("19: hang(" + a + ") in none", x.hang(a), STATE);
            }
            CHECK.due("18: once more, the other one", x.dial(1, 11), 0);
            CHECK.due("7: he called", x.one(1, 2), 1);
            CHECK.due("7: he was called", x.one(0, 2), 2);
        }
    }

    /** 20: "how many are CONNECTED in it (to hang up is none of these)". */
    private static void connectedByThePlan() {
        StepCalls x = Check.of("line 11;line 22;line 33;plan 0 22 0 99 1 11 0 99;");
        int[] due = {2, 0, NONE, 0, 0};
        for (int i = 0; i < due.length; i++) {
            CHECK.due("20: runs(" + i + ")", x.runs(i), due[i]);
        }
        for (int i = 0; i < 4; i++) {
            CHECK.due("21: to hang up is FATE 0, too", x.fate(i), 0);
        }
    }

    /** "who dials in a call, who hangs up in none, is passed over (FATE 6)". */
    private static void passedOver() {
        StepCalls x = Check.of("line 11;line 22;line 33;home 3 0;plan 2 99 0 22 0 33 1 10 1 99 1 99;");
        int[] due = {6, 0, 6, 6, 0, 6};
        for (int i = 0; i < due.length; i++) {
            CHECK.due("21: fate(" + i + ")", x.fate(i), due[i]);
        }
        CHECK.due("20: passed over", x.runs(4), 4);
        CHECK.due("20: none of them is LOST", x.runs(1), 0);
        CHECK.due("20: none of them is CONNECTED", x.runs(0), 1);
    }
}
