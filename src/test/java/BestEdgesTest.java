/** Edges that stand in single sentences of the promises 23 to 28. */
public final class BestEdgesTest {
    private static final Check CHECK = new Check("BestEdgesTest");
    private static final int NONE = StepCalls.NONE;

    public static void main(String[] args) {
        needsAndCalls();
        needBeyondWhatIs();
        needCountsItsOwnGroup();
        needTakesWaysAway();
        fewBeyondWhatIs();
        fewCountsFinders();
        allAreLost();
        eachHuntMayBeBest();
        eachTwoMayChange();
        inNoCallNow();
        eachActMayBeLeft();
        eachGroupMayHaveMore();
        moreIsNew();
        CHECK.finish();
    }

    /** 23: "(no fewer than calls hold there, counted from the first on)". */
    private static void needsAndCalls() {
        for (int held = 0; held < 4; held++) {
            StepCalls x = Check.of("line 11;line 22;line 33;on 1 4;");
            for (int i = 0; i < held; i++) {
                x.dial(1, 10);
            }
            x.dial(1, 11);
            CHECK.due("23: WAY " + held + " is held", x.need(1), held + 1);
            x.plan(2, 13);
            CHECK.due("23: WAY " + held + " is held, one more is wanted", x.need(1), held == 0 ? 2 : held + 1);
            x.hang(0);
            CHECK.due("23: none is held, one is wanted", x.need(1), 1);
        }
    }

    /** 23: more WAYS than there are, up to 4. */
    private static void needBeyondWhatIs() {
        StepCalls x = Check.of("line0;line10;line11;line12;line13;line14;finders6;home1 0;plan0 10 2 12 4 14;");
        CHECK.due("23: none there are, three are wanted", x.need(1), 3);
        x.cut(2);
        CHECK.due("23: two are wanted", x.need(1), 2);
        x.ways(1, 4);
        CHECK.due("23: four there are, two are wanted", x.need(1), 2);
        x.dial(0, 10);
        x.dial(2, 12);
        x.cut(0);
        x.plan(4, 14);
        x.plan(4, 99);
        x.plan(5, 10);
        CHECK.due("23: two are held, one more at a time is wanted", x.need(1), 3);
        CHECK.due("8: nothing is changed", x.group(1, 1), 4);
    }

    /** 23: "LOST for want of a WAY in it": of that GROUP, not of another one, nor for want of a FINDER. */
    private static void needCountsItsOwnGroup() {
        StepCalls x = Check.of("line 11;line 22;line 33;line 44;home 1 0;home 2 0;plan 0 22 2 11;");
        CHECK.due("23: need(1), whatever 2 wants", x.need(1), 1);
        CHECK.due("23: need(2), whatever 1 wants", x.need(2), 1);
        CHECK.due("23: need(3)", x.need(3), 0);
        x.finders(1);
        x.dial(2, 44);
        x.cut(0);
        x.plan(0, 22);
        CHECK.due("23: for want of a FINDER", x.need(2), 0);
    }

    /** 23: the WAYS that go take the LATEST, what is DEAD and USES with them. */
    private static void needTakesWaysAway() {
        StepCalls x = Check.of("line 11;line 22;line 33;home 1 4;plan 1 11 2 10;");
        CHECK.due("23: both at once", x.need(1), 2);
        x.dead(1, 0, true);
        CHECK.due("23: the first is DEAD: free again at once", x.need(1), 1);
        x.hunt(1, 1);
        x.dial(1, 10);
        // by 1 WAY the DEAD one alone is taken
        CHECK.due("23: on, from the second on: by one it goes round", x.need(1), 1);
    }

    private static void fewBeyondWhatIs() {
        StepCalls x = Check.of("line0;line10;line20;line30;line40;line44;finders1;home4 2;plan0 10 2 30 4 44;");
        CHECK.due("24: one there is, three are wanted", x.few(), 3);
        x.finders(6);
        CHECK.due("24: six there are, three are wanted", x.few(), 3);
        x.dial(0, 10);
        CHECK.due("24: the first dials in a call", x.few(), 3);
        x.cut(0);
        CHECK.due("24: as many as calls", x.few(), 1);
        x.dial(2, 30);
        x.dial(4, 44);
        CHECK.due("24: as many as calls", x.few(), 3);
        x.plan(0, 99);
        x.plan(0, 10);
        CHECK.due("24: one goes, one comes", x.few(), 3);
        CHECK.due("6: nothing is changed", x.rule(1), 6);
    }

    /** 24: "LOST for want of one": not for want of a WAY, not otherwise. */
    private static void fewCountsFinders() {
        StepCalls x = Check.of("line 11;line 22;line 33;line 44;finders 6;home 2 0;plan 0 22 0 10 0 11 2 44;");
        CHECK.due("24: all but one are LOST otherwise", x.few(), 1);
        CHECK.due("24: how many are", x.runs(1), 3);
        x.plan(1, 10);
        CHECK.due("24: nobody has 10, but a FINDER is wanted", x.few(), 2);
    }

    /** 25 to 28: all of a full PLAN LOST, and nothing to be done. */
    private static void allAreLost() {
        StepCalls x = Check.of("line 11;line 22;home 3 0;home 4 0;");
        for (int i = 0; i < 8; i++) {
            x.plan(i % 2, 44);
        }
        CHECK.due("20: all are LOST", x.runs(1), 8);
        CHECK.due("20: the first of them", x.runs(2), 0);
        for (int t = 0; t < 5; t++) {
            CHECK.due("25: grade(" + t + ", 0), all LOST by each HUNT", x.grade(t, 0), 0);
            CHECK.due("25: grade(" + t + ", 1), all LOST by each HUNT", x.grade(t, 1), 8);
        }
        CHECK.due("26: none better", x.swap(0), NONE);
        CHECK.due("27: any, the first", x.leave(0), 0);
        CHECK.due("27: any, one fewer", x.leave(1), 7);
        CHECK.due("28: none better", x.more(0), NONE);
    }

    /** 25: by home, on, back, spread alone. */
    private static void eachHuntMayBeBest() {
        for (int t = 0; t < 5; t++) {
            for (int kind = 0; kind < 4; kind++) {
                StepCalls x = Check.of("line " + t + "1;line " + t + "2;home " + t + " 4;plan 0 " + t + "2;");
                // in the end the LATEST is 0, USES are 4, 1, 0, 1: home takes 0, on 1, back 3, spread 2
                x.hunt(t, 1);
                for (int i = 0; i < 5; i++) {
                    x.dial(0, 10 * t);
                }
                x.ways(t, 2);
                x.ways(t, 4);
                x.hunt(t, 2);
                x.dial(0, 10 * t);
                x.hunt(t, 0);
                x.dial(0, 10 * t);
                x.dial(0, 10 * t);
                CHECK.due("9: USES", 1000 * x.uses(t, 0) + 100 * x.uses(t, 1) + 10 * x.uses(t, 2) + x.uses(t, 3), 4101);
                int[] taken = {0, 1, 3, 2};
                for (int w = 0; w < 4; w++) {
                    x.dead(t, w, w != taken[kind]);
                }
                CHECK.due("25: grade(" + t + ", 0), " + kind + " alone is best", x.grade(t, 0), kind);
                CHECK.due("25: grade(" + t + ", 1), " + kind + " alone is best", x.grade(t, 1), 0);
                x.see(0, 0);
                CHECK.due("33: hunts(" + t + "), " + kind + " alone", x.hunts(t), 1 << kind);
                CHECK.due("34: deads(" + t + "), home taking 0", x.deads(t), 0x5555);
            }
        }
    }

    /** 26: "10 times the lesser and the greater". */
    private static void eachTwoMayChange() {
        int[] numbers = {0, 11, 22, 33, 44, 4};
        for (int a = 0; a < 6; a++) {
            for (int b = a + 1; b < 6; b++) {
                StepCalls x = Check.of("line 0;line 11;line 22;line 33;line 44;line 4;finders 6;home 0 4;");
                x.plan(a, numbers[a]);
                x.plan(b, numbers[b]);
                CHECK.due("26: both dial themselves, " + a + ", " + b, x.swap(0), 10 * a + b);
                CHECK.due("26: then none is LOST", x.swap(1), 0);
                x.dial(a, numbers[b]);
                x.cut(0);
                int other = b == 5 ? (a == 4 ? 3 : 4) : 5;
                x.plan(other, numbers[other]);
                int first = 0;
                while (first == a || first == b || first == other) {
                    first++;
                }
                CHECK.due("26: of those in no call, " + a + ", " + b, x.swap(0), first < other ? 10 * first + other : 10 * other + first);
            }
        }
    }

    /** 26: "Two ONES (in no call)": in none now, whatever THE PLAN makes of it. */
    private static void inNoCallNow() {
        StepCalls x = Check.of("line 11;line 22;line 33;plan 0 99 2 33;");
        CHECK.due("26: all are in no call: 0 and 2 are the first that are good", x.swap(0), 2);
        x.dial(0, 22);
        CHECK.due("26: 0 and 1 are in a call, though 0 hangs up ahead of it", x.swap(0), NONE);
        CHECK.due("26: 0 and 1 are in a call, though 0 hangs up ahead of it", x.swap(1), NONE);
        x.hang(1);
        CHECK.due("26: they are in none again", x.swap(0), 2);
        CHECK.due("26: they are in none again", x.swap(1), 0);
    }

    /** 27: each one of a full PLAN. */
    private static void eachActMayBeLeft() {
        for (int i = 0; i < 8; i++) {
            StepCalls x = Check.of("line 11;line 22;");
            for (int j = 0; j < 8; j++) {
                x.plan(0, j == i ? 44 : 99);
            }
            CHECK.due("27: leave(0)", x.leave(0), i);
            CHECK.due("27: leave(1)", x.leave(1), 0);
            CHECK.due("20: runs(2)", x.runs(2), i);
            CHECK.due("21: fate(" + i + ")", x.fate(i), 4);
        }
    }

    /** 28: each GROUP, from 0 to 3 WAYS on. */
    private static void eachGroupMayHaveMore() {
        for (int t = 0; t < 5; t++) {
            for (int n = 0; n <= 4; n++) {
                StepCalls x = Check.of("line " + t + "1;line " + t + "2;back " + t + " " + n + ";plan 0 " + t + "2;");
                for (int w = 0; w < n; w++) {
                    x.dead(t, w, true);
                }
                CHECK.due("28: more(0) of " + n + " WAYS, all DEAD", x.more(0), n < 4 ? t : NONE);
                CHECK.due("28: more(1) of " + n + " WAYS, all DEAD", x.more(1), n < 4 ? 0 : NONE);
                CHECK.due("23: need(" + t + ") of " + n + " WAYS, all DEAD", x.need(t), 1);
            }
        }
    }

    /** 28: "one WAY more": it comes anew, behind the last. */
    private static void moreIsNew() {
        StepCalls x = Check.of("line 11;line 22;line 33;back 2 3;plan 0 22;");
        for (int w = 0; w < 3; w++) {
            x.dead(2, w, true);
        }
        CHECK.due("28: back takes the new one, which is not DEAD", x.more(0), 2);
        CHECK.due("28: none is LOST", x.more(1), 0);
        x.hunt(2, 0);
        CHECK.due("28: home takes a DEAD one", x.more(0), NONE);
        x.hunt(2, 3);
        x.dial(0, 20);
        CHECK.due("28: spread takes one of no USES, from behind the LATEST on", x.more(0), NONE);
        x.dial(0, 20);
        x.dial(0, 20);
        CHECK.due("28: spread takes the new one, of no USES", x.more(0), 2);
        x.ways(2, 4);
        x.dead(2, 3, true);
        CHECK.due("28: 4 at most", x.more(0), NONE);
    }
}
