/** "BAD, STATE, FULL, NONE .., the first that fits", "its FATE is the first of these that fits", "of several the first": where two would fit. */
public final class FirstFitTest {
    private static final Check CHECK = new Check("FirstFitTest");
    private static final int BAD = StepCalls.BAD, STATE = StepCalls.STATE, NONE = StepCalls.NONE;

    public static void main(String[] args) {
        badAheadOfState();
        badAheadOfFull();
        badAheadOfNone();
        badAheadOfFaults();
        faultsOfSheets();
        fatesByTwos();
        fatesOfThePlan();
        severalHunts();
        severalSwaps();
        severalLeft();
        severalMore();
        severalAsked();
        firstLost();
        leastOfAll();
        CHECK.finish();
    }

    private static void badAheadOfState() {
        StepCalls x = Given.part();
        CHECK.due("11: in a call, n out of its bounds", x.number(0, 45), BAD);
        CHECK.due("11: in a call, n of another", x.number(0, 44), BAD);
        CHECK.due("11: in a call, n of the other in it", x.number(0, 12), BAD);
        CHECK.due("11: in a call, his own", x.number(0, 11), STATE);
        CHECK.due("12: more calls, n 0", x.finders(0), BAD);
        CHECK.due("12: more calls, n -1", x.finders(-1), BAD);
        CHECK.due("14: a WAY is held, n -1", x.ways(1, -1), BAD);
        CHECK.due("14: a WAY is held, n 5", x.ways(1, 5), BAD);
        CHECK.due("18: in a call, n out of its bounds", x.dial(0, 45), BAD);
        CHECK.due("18: in a call, n -1", x.dial(1, -1), BAD);
        CHECK.due("36: nobody, n 0", new StepCalls().drift(0, 0, 0), BAD);
        CHECK.due("36: nobody, n 61", new StepCalls().drift(0, 61, 0), BAD);
        CHECK.due("36: nobody, what 2", new StepCalls().drift(0, 1, 2), BAD);
        CHECK.due("36: nobody, what -1", new StepCalls().drift(0, 1, -1), BAD);
        CHECK.due("38: there is no IMAGE 2", new StepCalls().back(2), BAD);
        CHECK.due("38: there is no IMAGE -1", new StepCalls().back(-1), BAD);
    }

    private static void badAheadOfFull() {
        StepCalls x = Given.full();
        CHECK.due("2: a full TAPE, c 128", x.feed(128), BAD);
        CHECK.due("2: a full TAPE, c -1", x.feed(-1), BAD);
        CHECK.due("16: a full PLAN, ONE 6", x.plan(6, 11), BAD);
        CHECK.due("16: a full PLAN, ONE -1", x.plan(-1, 11), BAD);
        CHECK.due("16: a full PLAN, n 45", x.plan(0, 45), BAD);
        CHECK.due("16: a full PLAN, n 98", x.plan(0, 98), BAD);
        CHECK.due("31: as many SEEN as there may be, ACT 8", x.see(8, 0), BAD);
        CHECK.due("31: as many SEEN as there may be, ACT -1", x.see(-1, 0), BAD);
        CHECK.due("31: as many SEEN as there may be, FATE 7", x.see(0, 7), BAD);
        CHECK.due("31: as many SEEN as there may be, FATE -1", x.see(0, -1), BAD);
    }

    private static void badAheadOfNone() {
        StepCalls x = new StepCalls();
        for (int what = -1; what <= 2; what += 3) {
            CHECK.due("26: none to change, what " + what, x.swap(what), BAD);
            CHECK.due("27: none to leave, what " + what, x.leave(what), BAD);
            CHECK.due("28: none to have more, what " + what, x.more(what), BAD);
            CHECK.due("35: none to ask, what " + what, x.ask(0, what), BAD);
        }
        CHECK.due("20: none LOST, what 5", x.runs(5), BAD);
        CHECK.due("43: SHEET 0 is nothing, what 6", x.count(6), BAD);
        CHECK.due("22: in a call with nobody, as there is nobody", x.ahead(0), BAD);
        CHECK.due("7: in a call with nobody, as there is nobody", x.one(0, 1), BAD);
    }

    private static void badAheadOfFaults() {
        StepCalls x = new StepCalls();
        CHECK.due("39: SIZE, but SHEET 4", x.sheet(4, 0, -1), BAD);
        CHECK.due("39: SIZE, but SHEET -1", x.sheet(-1, 0, -1), BAD);
        CHECK.due("39: SIZE, but lane 3", x.sheet(0, 3, -1), BAD);
        CHECK.due("39: SIZE, but lane -1", x.sheet(0, -1, -1), BAD);
        CHECK.due("40: NULL, but SHEET 4", x.lay(4, 99, 0), BAD);
        CHECK.due("40: NULL, but SHEET -1", x.lay(-1, 99, 0), BAD);
        CHECK.due("41: NULL, but SHEET 4", x.read(4, 0, 99, 1), BAD);
        CHECK.due("41: NULL, but lane 3", x.read(0, 3, 99, 1), BAD);
        CHECK.due("41: NULL, but n 21", x.read(0, 0, 99, 21), BAD);
        CHECK.due("42: none has been read", x.torn(), 0);
    }

    private static void faultsOfSheets() {
        StepCalls x = Check.of("line 11;");
        CHECK.due("40: NULL ahead of INDEX", x.lay(0, 40, 0), -11);
        CHECK.due("40: NULL ahead of INDEX", x.lay(0, -1, 0), -11);
        for (int lane = 0; lane < 3; lane++) {
            CHECK.due("41: NULL ahead of INDEX", x.read(0, lane, -1, 1), 0);
            CHECK.due("42: NULL ahead of INDEX", x.torn(), 1);
        }
        x.sheet(1, 1, 0);
        CHECK.due("41: CAST ahead of INDEX", x.read(1, 0, 0, 1), 0);
        CHECK.due("42: CAST ahead of INDEX", x.torn(), 3);
        CHECK.due("41: INDEX, the lane being its own", x.read(1, 1, 0, 1), 0);
        CHECK.due("42: INDEX, the lane being its own", x.torn(), 2);
        Check.fill(x, 2, 1, 11, 0);
        CHECK.due("41: CAST ahead of what would be refused", x.read(0, 0, 0, 1), 0);
        CHECK.due("42: CAST ahead of what would be refused", x.torn(), 3);
        CHECK.due("41: refused ahead of one that is not whole", x.read(0, 2, 0, 2), -20);
        Check.fill(x, 2, 0, 11, 1);
        CHECK.due("41: one that is not whole ahead of no ONE", x.read(0, 2, 0, 2), 1);
        CHECK.due("42: one that is not whole ahead of no ONE", x.torn(), 2);
        Check.fill(x, 2, 0, 11, 1, 11, 2, 45);
        CHECK.due("41: the first that is refused", x.read(0, 2, 0, 3), -21);
        CHECK.due("41: the first that is refused, from the next on", x.read(0, 2, 4, 1), -20);
    }

    /** Each two of FATES 1 to 5 that can fit at once. */
    private static void fatesByTwos() {
        StepCalls x = Check.of("line 11;line 22;line 33;line 44;finders 1;home 3 0;");
        x.dial(0, 22);
        x.dead(1, 0, true);
        CHECK.due("18: no FINDER, no WAY", x.dial(2, 33), 1);
        CHECK.due("18: no FINDER, DEAD", x.dial(2, 11), 1);
        CHECK.due("18: no FINDER, nobody", x.dial(2, 40), 1);
        CHECK.due("18: no FINDER, in a call", x.dial(2, 22), 1);
        CHECK.due("18: no FINDER, he himself", x.dial(3, 44), 1);
        CHECK.due("18: by none of these a WAY is taken", x.rule(4), 1);
        x.finders(2);
        x.dead(2, 0, true);
        CHECK.due("18: no WAY, the one that is held being DEAD", x.dial(2, 20), 2);
        CHECK.due("18: no WAY, nobody", x.dial(2, 30), 2);
        CHECK.due("18: no WAY, in a call", x.dial(2, 22), 2);
        CHECK.due("18: no WAY, he himself", x.dial(2, 33), 2);
        CHECK.due("18: by none of these a WAY is taken", x.rule(4), 1);
        CHECK.due("18: DEAD, nobody", x.dial(2, 10), 3);
        CHECK.due("18: DEAD, in a call", x.dial(2, 11), 3);
        x.dead(4, 0, true);
        CHECK.due("18: DEAD, he himself", x.dial(3, 44), 3);
        CHECK.due("18: DEAD, somebody who is free", x.dial(2, 44), 3);
        CHECK.due("18: by each of these a WAY is taken", x.rule(4), 5);
        CHECK.due("18: none of them is connected", x.rule(2), 1);
    }

    private static void fatesOfThePlan() {
        StepCalls x = Check.of("line 11;line 22;line 33;line 44;finders 1;home 3 0;plan 0 22 2 33 0 33 1 11 2 99 1 99 2 33;");
        int[] due = {0, 1, 6, 6, 6, 0, 2};
        for (int i = 0; i < due.length; i++) {
            CHECK.due("21: fate(" + i + "), who is passed over being neither LOST nor CONNECTED", x.fate(i), due[i]);
        }
    }

    private static void severalHunts() {
        StepCalls x = Check.of("line 11;line 22;on 1 3;plan 1 11;");
        CHECK.due("25: all four alike: the first", x.grade(1, 0), 0);
        x.dead(1, 0, true);
        CHECK.due("25: back alone", x.grade(1, 0), 2);
        x.dial(1, 10);
        CHECK.due("25: on, back, spread alike: the first of these", x.grade(1, 0), 1);
        CHECK.due("25: how many are LOST by it", x.grade(1, 1), 0);
        x.dead(1, 1, true);
        x.dead(1, 2, true);
        CHECK.due("25: all LOST: the first", x.grade(1, 0), 0);
        CHECK.due("25: all LOST: how many", x.grade(1, 1), 1);
    }

    private static void severalSwaps() {
        StepCalls x = Check.of("line 11;line 22;line 33;line 44;plan 3 44;");
        CHECK.due("26: 03, 13, 23 are alike: the least", x.swap(0), 3);
        x.dial(0, 10);
        x.cut(0);
        x.plan(1, 22);
        CHECK.due("26: 01, 12, 13 are alike: the least", x.swap(0), 1);
        x.plan(2, 11);
        // 01: 1 dials 0 (by 22), 2 dials 1, who is in a call; 12: 1 dials 2, who is passed over then
        CHECK.due("26: 12 is better than 01", x.swap(0), 12);
        CHECK.due("26: how many are LOST by it", x.swap(1), 0);
    }

    private static void severalLeft() {
        StepCalls x = Check.of("line 11;line 22;line 33;line 44;plan 0 10 1 10 2 10;");
        CHECK.due("27: all are alike: the first", x.leave(0), 0);
        CHECK.due("27: all are alike: how many", x.leave(1), 2);
        x.cut(0);
        x.plan(0, 99);
        x.plan(1, 10);
        x.plan(2, 10);
        CHECK.due("27: the second, the third are alike: the first of these", x.leave(0), 1);
    }

    private static void severalMore() {
        StepCalls x = Check.of("line 11;line 22;line 33;line 44;line 0;line 40;home 0 0;home 1 0;home 2 0;home 3 0;home 4 0;finders 6;plan 0 40;");
        CHECK.due("28: one alone", x.more(0), 4);
        x.plan(1, 33);
        CHECK.due("28: two are alike: the first", x.more(0), 3);
        x.plan(3, 0);
        CHECK.due("28: three are alike: the first", x.more(0), 0);
        CHECK.due("28: how many are LOST by it", x.more(1), 2);
    }

    private static void severalAsked() {
        StepCalls x = Check.of("line 11;line 22;home 1 1;plan 1 99 1 10 1 10 1 10;");
        CHECK.due("35: three ACTS are alike: the first", x.ask(1, 0), 1);
        CHECK.due("35: how many are left", x.ask(1, 1), 1);
    }

    private static void firstLost() {
        StepCalls x = Check.of("line 11;line 22;plan 0 99 0 22 0 99 1 22 0 10 1 10;");
        CHECK.due("20: the first that is LOST", x.runs(2), 3);
        CHECK.due("20: how many are", x.runs(1), 3);
    }

    /** "Of a GROUP: the least WAYS", "the least FINDERS": where more would do, too. */
    private static void leastOfAll() {
        StepCalls x = Check.of("line 11;line 22;line 33;home 2 4;finders 6;plan 0 22;");
        CHECK.due("23: one will do", x.need(2), 1);
        CHECK.due("24: one will do", x.few(), 1);
        CHECK.due("23: none will do", x.need(3), 0);
        CHECK.due("22: ahead(2)", x.ahead(2), NONE);
    }
}
