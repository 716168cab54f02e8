/** Nobody, no ACTS, no WAYS, nothing SEEN, no CELLS, no bytes; and as many of each as there may be. */
public final class EmptyFullTest {
    private static final Check CHECK = new Check("EmptyFullTest");
    private static final int BAD = StepCalls.BAD, STATE = StepCalls.STATE, FULL = StepCalls.FULL, NONE = StepCalls.NONE;

    public static void main(String[] args) {
        nobody();
        anEmptyPlan();
        nobodyIsLost();
        onesAlone();
        noWays();
        nothingSeen();
        noCells();
        fullTape();
        fullPlan();
        fullSeen();
        fullExchange();
        fullWays();
        usesOfAll();
        fullFinders();
        fullImages();
        fullSheets();
        CHECK.finish();
    }

    /** "Nobody; SHEETS of nothing", and what all calls tell of that. */
    private static void nobody() {
        StepCalls x = new StepCalls();
        int[] runs = {0, 0, NONE, 0, 0};
        for (int i = 0; i < runs.length; i++) {
            CHECK.due("20: runs(" + i + ") of nobody", x.runs(i), runs[i]);
        }
        CHECK.due("21: fate(0) of nobody", x.fate(0), BAD);
        CHECK.due("22: ahead(0) of nobody", x.ahead(0), BAD);
        CHECK.due("24: few() of nobody", x.few(), 1);
        CHECK.due("26: swap(0) of nobody", x.swap(0), NONE);
        CHECK.due("26: swap(1) of nobody", x.swap(1), NONE);
        CHECK.due("27: leave(0) of nobody", x.leave(0), NONE);
        CHECK.due("28: more(0) of nobody", x.more(0), NONE);
        CHECK.due("29: luck(1, 0, 1, 0) of nobody", x.luck(1, 0, 1, 0), BAD);
        CHECK.due("30: mean(5, 0) of nobody", x.mean(5, 0), 0);
        CHECK.due("30: mean(5, 1) of nobody", x.mean(5, 1), 1);
        for (int t = 0; t < 5; t++) {
            CHECK.due("23: need(" + t + ") of nobody", x.need(t), 0);
            CHECK.due("25: grade(" + t + ", 0) of nobody", x.grade(t, 0), 0);
            CHECK.due("25: grade(" + t + ", 1) of nobody", x.grade(t, 1), 0);
            CHECK.due("33: hunts(" + t + ") of nobody", x.hunts(t), 15);
            CHECK.due("34: deads(" + t + ") of nobody", x.deads(t), 3);
            CHECK.due("35: ask(" + t + ", 0) of nobody", x.ask(t, 0), NONE);
        }
        CHECK.due("36: drift(1, 1, 0) of nobody", x.drift(1, 1, 0), STATE);
        CHECK.due("36: drift(1, 60, 1) of nobody", x.drift(1, 60, 1), STATE);
        CHECK.due("13: GROUPS are there", x.hunt(4, 3), 0);
        CHECK.due("14: GROUPS are there", x.ways(4, 4), 1);
        CHECK.due("15: GROUPS are there", x.dead(4, 3, true), 0);
        CHECK.due("12: FINDERS are there", x.finders(1), 2);
        x.sheet(0, 0, 2);
        CHECK.due("41: ONE 0 is not there", x.read(0, 0, 0, 1), -20);
        CHECK.due("41: n 0", x.read(0, 0, 0, 0), 0);
        CHECK.due("37: keep(0) of nobody", x.keep(0), 0);
        Check.text(x, "line 1;");
        CHECK.due("38: a text takes IMAGES away", x.back(0), STATE);
        StepCalls y = new StepCalls();
        y.keep(1);
        y.finders(5);
        CHECK.due("38: back(1) to nobody", y.back(1), 0);
        CHECK.due("38: FINDERS as at first", y.rule(1), 2);
    }

    /** BY THE PLAN of no ACTS all is as it is now. */
    private static void anEmptyPlan() {
        StepCalls x = Given.part();
        x.cut(0);
        x.forget(0);
        int[] runs = {0, 0, NONE, 2, 0};
        for (int i = 0; i < runs.length; i++) {
            CHECK.due("20: runs(" + i + ") of no ACTS", x.runs(i), runs[i]);
        }
        int[] with = {1, 0, 3, 2, NONE, NONE};
        for (int a = 0; a < 6; a++) {
            CHECK.due("22: ahead(" + a + ") of no ACTS", x.ahead(a), with[a]);
        }
        int[] held = {0, 1, 2, 0, 0};
        for (int t = 0; t < 5; t++) {
            CHECK.due("23: need(" + t + ") of no ACTS: what calls hold, counted from the first on", x.need(t), held[t]);
            CHECK.due("25: grade(" + t + ", 1) of no ACTS", x.grade(t, 1), 0);
            CHECK.due("35: ask(" + t + ", 1) of no ACTS", x.ask(t, 1), NONE);
        }
        CHECK.due("24: few() of no ACTS: calls", x.few(), 2);
        CHECK.due("26: swap(1) of no ACTS", x.swap(1), NONE);
        CHECK.due("27: leave(1) of no ACTS", x.leave(1), NONE);
        CHECK.due("28: more(1) of no ACTS", x.more(1), NONE);
        CHECK.due("29: luck of two in a call", x.luck(7, 0, 1, 0), 1);
        CHECK.due("29: luck of two in a call, 1 by 1", x.luck(7, 0, 1, 1), 1);
        CHECK.due("29: luck of two in no call", x.luck(7, 0, 2, 0), 0);
        CHECK.due("29: luck of two in no call, 0 by 1", x.luck(7, 0, 2, 1), 1);
        CHECK.due("30: mean", x.mean(7, 0), 0);
        CHECK.due("30: mean, 0 by 1", x.mean(7, 1), 1);
        CHECK.due("17: cut(0) of no ACTS", x.cut(0), 0);
        CHECK.due("17: cut(1) of no ACTS", x.cut(1), BAD);
        CHECK.due("10: act(0, 0) of no ACTS", x.act(0, 0), BAD);
        CHECK.due("4: plan; of no ACTS", Check.text(new StepCalls(), "plan;"), 1);
    }

    /** "fewer than as it is": where none is LOST, nothing is better. */
    private static void nobodyIsLost() {
        StepCalls x = Check.of("line 11;line 22;line 33;plan 0 22 1 99 0 33 0 99;");
        CHECK.due("20: none is LOST", x.runs(1), 0);
        CHECK.due("20: the first that is", x.runs(2), NONE);
        CHECK.due("26: none better", x.swap(0), NONE);
        CHECK.due("27: none better", x.leave(0), NONE);
        CHECK.due("28: none better", x.more(0), NONE);
        CHECK.due("25: as good as can be, the first", x.grade(2, 0), 0);
        CHECK.due("25: as good as can be", x.grade(2, 1), 0);
    }

    private static void onesAlone() {
        StepCalls x = Check.of("line 11;plan 0 11;");
        CHECK.due("26: one alone has nobody to change with", x.swap(0), NONE);
        CHECK.due("27: he is to leave it", x.leave(0), 0);
        CHECK.due("29: luck with nobody", x.luck(1, 0, 1, 0), BAD);
        CHECK.due("36: he dials himself, whatever is got", x.drift(77, 60, 0), 60);
        CHECK.due("36: no calls", x.drift(77, 60, 1), 0);
        StepCalls y = Check.of("line 11;line 22;line 33;plan 2 33;");
        y.dial(0, 22);
        CHECK.due("26: one alone is in no call", y.swap(0), NONE);
        StepCalls z = Check.of("line 11;line 22;plan 1 22;");
        CHECK.due("26: two", z.swap(0), 1);
        CHECK.due("26: two", z.swap(1), 0);
    }

    private static void noWays() {
        StepCalls x = Check.of("line 11;line 22;home 2 0;plan 0 22 0 20;");
        int[] due = {0, 0, 0, 0, NONE, NONE};
        for (int i = 0; i < due.length; i++) {
            CHECK.due("8: group(2, " + i + ") of no WAYS", x.group(2, i), due[i]);
        }
        CHECK.due("9: uses(2, 0) of no WAYS", x.uses(2, 0), BAD);
        CHECK.due("15: dead(2, 0, true) of no WAYS", x.dead(2, 0, true), BAD);
        CHECK.due("18: dial(0, 22) of no WAYS", x.dial(0, 22), 2);
        CHECK.due("34: deads(2) of no WAYS: the empty set", x.deads(2), 1);
        CHECK.due("35: ask(2, 0) of no WAYS", x.ask(2, 0), NONE);
        CHECK.due("33: hunts(2) of no WAYS", x.hunts(2), 15);
        CHECK.due("25: grade(2, 1) of no WAYS", x.grade(2, 1), 2);
        CHECK.due("23: need(2) of no WAYS", x.need(2), 1);
        CHECK.due("28: more(0) of no WAYS", x.more(0), 2);
        x.see(0, 0);
        CHECK.due("34: not so by the empty set", x.deads(2), 0);
        CHECK.due("35: not so by the empty set", x.ask(2, 0), NONE);
        CHECK.due("14: ways(2, 0) once more", x.ways(2, 0), 0);
        for (int t = 0; t < 5; t++) {
            x.ways(t, 0);
        }
        CHECK.due("43: no WAYS at all", x.count(4), 0);
        CHECK.due("6: no USES at all", x.rule(4), 0);
        CHECK.due("36: all are LOST", x.drift(3, 60, 0), 60);
    }

    private static void nothingSeen() {
        StepCalls x = Check.of("line 11;line 22;home 0 0;home 2 2;home 3 3;home 4 4;plan 0 11;");
        CHECK.due("32: forget(0) of nothing", x.forget(0), 0);
        CHECK.due("32: forget(1) of nothing", x.forget(1), BAD);
        int[] sets = {1, 3, 15, 255, 65535};
        for (int t = 0; t < 5; t++) {
            CHECK.due("33: hunts(" + t + "), nothing being SEEN", x.hunts(t), 15);
            CHECK.due("34: deads(" + t + "), nothing being SEEN: all sets of WAYS that there are", x.deads(t), sets[t]);
        }
        for (int i = 0; i < 8; i++) {
            for (int fate = 0; fate <= 6; fate++) {
                x.see(i, fate);
                boolean so = i == 0 && fate == 5;
                CHECK.due("33: ACT " + i + " of FATE " + fate, x.hunts(0), so ? 15 : 0);
                CHECK.due("34: ACT " + i + " of FATE " + fate, x.deads(0), so ? 1 : 0);
                x.forget(0);
            }
        }
    }

    private static void noCells() {
        StepCalls x = Check.of("line 11;");
        CHECK.due("43: nothing", x.count(3), NONE);
        CHECK.due("39: sheet(0, 1, 0)", x.sheet(0, 1, 0), 1);
        CHECK.due("43: no CELLS", x.count(3), 0);
        CHECK.due("40: lay(0, 0, 0) of no CELLS", x.lay(0, 0, 0), -12);
        CHECK.due("41: n 0 of no CELLS", x.read(0, 1, 0, 0), 0);
        CHECK.due("42: n 0 of no CELLS", x.torn(), 0);
        CHECK.due("41: n 1 of no CELLS", x.read(0, 1, 0, 1), 0);
        CHECK.due("42: n 1 of no CELLS", x.torn(), 2);
        CHECK.due("41: n 1 of no CELLS as of another lane", x.read(0, 2, 0, 1), 0);
        CHECK.due("42: n 1 of no CELLS as of another lane", x.torn(), 3);
        CHECK.due("39: SIZE leaves it", x.sheet(0, 2, -1), -14);
        CHECK.due("43: no CELLS still", x.count(3), 0);
        CHECK.due("39: one", x.sheet(0, 2, 1), 1);
        CHECK.due("41: one is not whole", x.read(0, 2, 0, 1), 0);
        CHECK.due("42: one is not whole", x.torn(), 2);
    }

    private static void fullTape() {
        StepCalls x = Given.full();
        CHECK.due("43: bytes", x.count(2), 160);
        CHECK.due("2: one more", x.feed('a'), FULL);
        CHECK.due("3: end(160)", x.end(160), 160);
        CHECK.due("2: one more", x.feed('a'), FULL);
        CHECK.due("3: end(159)", x.end(159), 160);
        CHECK.due("2: the last", x.feed('a'), 160);
        CHECK.due("4: it is read", x.text(), -10 - 159);
        CHECK.due("2: the first, THE TAPE being empty", x.feed('a'), 1);
    }

    private static void fullPlan() {
        StepCalls x = Given.full();
        CHECK.due("6: ACTS", x.rule(3), 8);
        CHECK.due("16: one more", x.plan(5, 99), FULL);
        CHECK.due("10: the last", x.act(7, 0), 3);
        CHECK.due("10: none behind it", x.act(8, 0), BAD);
        CHECK.due("21: the last", x.fate(7), 6);
        CHECK.due("17: cut(8)", x.cut(8), 8);
        CHECK.due("16: one more", x.plan(5, 99), FULL);
        CHECK.due("17: cut(7)", x.cut(7), 8);
        CHECK.due("16: the last", x.plan(5, 99), 8);
        CHECK.due("10: the last", x.act(7, 1), 99);
        CHECK.due("21: the last", x.fate(7), 0);
        x.cut(0);
        for (int i = 0; i < 8; i++) {
            x.plan(i % 6, 99);
        }
        CHECK.due("20: ACTS that are passed over", x.runs(4), 5);
        CHECK.due("20: none of these is CONNECTED", x.runs(0), 0);
        CHECK.due("20: calls then", x.runs(3), 0);
    }

    private static void fullSeen() {
        StepCalls x = Given.full();
        CHECK.due("43: SEEN", x.count(0), 6);
        CHECK.due("31: one more", x.see(0, 0), FULL);
        CHECK.due("32: forget(6)", x.forget(6), 6);
        CHECK.due("31: one more", x.see(0, 0), FULL);
        CHECK.due("32: forget(5)", x.forget(5), 6);
        CHECK.due("33: all is as SEEN", x.hunts(0), 15);
        CHECK.due("31: the last", x.see(7, 0), 6);
        CHECK.due("33: the last is looked at", x.hunts(0), 0);
        CHECK.due("31: one more", x.see(7, 6), FULL);
        x.forget(5);
        CHECK.due("31: the last", x.see(7, 6), 6);
        CHECK.due("33: the last is looked at", x.hunts(0), 15);
    }

    private static void fullExchange() {
        StepCalls x = Given.full();
        CHECK.due("6: ONES", x.rule(0), 6);
        CHECK.due("6: calls", x.rule(2), 3);
        CHECK.due("6: all are in calls", x.rule(5), 63);
        int[] with = {1, 0, 3, 2, 5, 4};
        for (int a = 0; a < 6; a++) {
            CHECK.due("7: with whom " + a + " is", x.one(a, 1), with[a]);
            CHECK.due("7: who called, " + a, x.one(a, 2), a % 2 + 1);
            CHECK.due("11: number(" + a + ", 20)", x.number(a, 20), STATE);
            CHECK.due("18: dial(" + a + ", 20)", x.dial(a, 20), STATE);
        }
        CHECK.due("26: nobody is in no call", x.swap(0), NONE);
        CHECK.due("24: few() is no fewer than calls", x.few(), 3);
        for (int a = 5; a > 0; a -= 2) {
            CHECK.due("19: hang(" + a + ")", x.hang(a), a - 1);
        }
        CHECK.due("6: calls", x.rule(2), 0);
    }

    private static void fullWays() {
        StepCalls x = Given.full();
        CHECK.due("43: WAYS", x.count(4), 20);
        for (int t = 0; t < 5; t++) {
            CHECK.due("14: ways(" + t + ", 5)", x.ways(t, 5), BAD);
            CHECK.due("14: ways(" + t + ", 4)", x.ways(t, 4), 4);
            for (int w = 0; w < 4; w++) {
                CHECK.due("15: dead(" + t + ", " + w + ", true)", x.dead(t, w, true), 0);
            }
            CHECK.due("8: all are DEAD", x.group(t, 2), 15);
        }
        CHECK.due("43: all are DEAD", x.count(5), 20);
        CHECK.due("28: none can have one more", x.more(0), NONE);
        x.forget(0);
        CHECK.due("34: whichever are DEAD now", x.deads(1), 65535);
    }

    /** 6: "4 all USES": of each WAY of each GROUP. */
    private static void usesOfAll() {
        StepCalls x = Check.of("line 0;");
        int all = 0;
        for (int t = 0; t < 5; t++) {
            x.ways(t, 4);
            x.hunt(t, 1);
            for (int i = 0; i < 4 * (t + 1); i++) {
                x.dial(0, 10 * t + 4);
                all++;
                CHECK.due("6: all USES", x.rule(4), all);
            }
            for (int w = 0; w < 4; w++) {
                CHECK.due("9: uses(" + t + ", " + w + ")", x.uses(t, w), t + 1);
            }
        }
        for (int t = 0; t < 5; t++) {
            for (int w = 3; w >= 0; w--) {
                x.ways(t, w);
                all -= t + 1;
                CHECK.due("6: all USES, some WAYS having gone", x.rule(4), all);
            }
        }
    }

    /** "FINDERS (1 to 6; 2 at first)", "1 all FINDERS are held by calls". */
    private static void fullFinders() {
        StepCalls x = Check.of("line0;line4;line11;line22;line33;line44;finders1;home0 4;home4 4;");
        CHECK.due("18: the first", x.dial(0, 4), 0);
        CHECK.due("18: the only one is held", x.dial(2, 22), 1);
        CHECK.due("12: finders(2)", x.finders(2), 1);
        CHECK.due("18: the second", x.dial(2, 22), 0);
        CHECK.due("18: both are held", x.dial(4, 44), 1);
        CHECK.due("12: finders(6)", x.finders(6), 2);
        CHECK.due("18: the third", x.dial(4, 44), 0);
        CHECK.due("12: as many as calls", x.finders(3), 6);
        CHECK.due("12: one fewer", x.finders(2), STATE);
        x.hang(4);
        CHECK.due("12: as many as calls", x.finders(2), 3);
        CHECK.due("18: both are held", x.dial(4, 44), 1);
        x.hang(3);
        CHECK.due("18: one is free again", x.dial(4, 44), 0);
        CHECK.due("12: one fewer", x.finders(1), STATE);
    }

    private static void fullImages() {
        StepCalls x = Given.full();
        CHECK.due("43: IMAGES", x.count(1), 2);
        CHECK.due("37: keep(0) in place of the one that there was", x.keep(0), 1);
        CHECK.due("37: keep(1) in place of the one that there was", x.keep(1), 1);
        CHECK.due("37: keep(2)", x.keep(2), BAD);
        CHECK.due("43: IMAGES", x.count(1), 2);
        CHECK.due("38: back(0)", x.back(0), 3);
        CHECK.due("38: IMAGES stay", x.count(1), 2);
    }

    private static void fullSheets() {
        StepCalls x = Given.full();
        CHECK.due("43: CELLS", x.count(3), 40);
        CHECK.due("40: the last CELL", x.lay(0, 39, 1), 1);
        CHECK.due("40: none behind it", x.lay(0, 40, 1), -12);
        CHECK.due("39: one more", x.sheet(0, 0, 41), BAD);
        CHECK.due("43: CELLS", x.count(3), 40);
        CHECK.due("39: as many anew", x.sheet(0, 2, 40), 1);
    }
}
