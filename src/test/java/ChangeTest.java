/** Promises 11 to 17: what is changed. */
public final class ChangeTest {
    private static final Check CHECK = new Check("ChangeTest");
    private static final int BAD = StepCalls.BAD, STATE = StepCalls.STATE, FULL = StepCalls.FULL, NONE = StepCalls.NONE;

    public static void main(String[] args) {
        number();
        finders();
        hunt();
        ways();
        waysThatGo();
        dead();
        plan();
        cut();
        CHECK.finish();
    }

    private static void number() {
        StepCalls x = Check.of("line 11;line 22;line 33;");
        CHECK.due("11: number(0, 44)", x.number(0, 44), 11);
        CHECK.due("11: number(0, 44), his own", x.number(0, 44), 44);
        CHECK.due("11: number(0, 0)", x.number(0, 0), 44);
        CHECK.due("11: one(0, 0)", x.one(0, 0), 0);
        CHECK.due("11: number(0, 22), of another", x.number(0, 22), BAD);
        CHECK.due("11: number(3, 10)", x.number(3, 10), BAD);
        CHECK.due("11: number(-1, 10)", x.number(-1, 10), BAD);
        int[] none = {-1, 5, 9, 15, 45, 50, 99, 100};
        for (int n : none) {
            CHECK.due("11: number(1, " + n + ")", x.number(1, n), BAD);
        }
        x.dial(1, 33);
        CHECK.due("11: number(1, 10) in a call", x.number(1, 10), STATE);
        CHECK.due("11: number(2, 33) in a call", x.number(2, 33), STATE);
        CHECK.due("11: number(1, 33) in a call, of another", x.number(1, 33), BAD);
        CHECK.due("11: number(1, 5) in a call", x.number(1, 5), BAD);
        CHECK.due("11: number(0, 11), the others being in a call", x.number(0, 11), 0);
        CHECK.due("11: what is refused changes nothing", x.one(1, 0), 22);
    }

    private static void finders() {
        StepCalls x = Check.of("line 11;line 22;line 33;line 44;");
        CHECK.due("12: finders(6)", x.finders(6), 2);
        CHECK.due("12: finders(7)", x.finders(7), BAD);
        CHECK.due("12: finders(0)", x.finders(0), BAD);
        CHECK.due("12: finders(-3)", x.finders(-3), BAD);
        x.dial(0, 22);
        x.dial(2, 44);
        CHECK.due("12: finders(1), two calls", x.finders(1), STATE);
        CHECK.due("12: finders(0), two calls", x.finders(0), BAD);
        CHECK.due("12: finders(2), two calls", x.finders(2), 6);
        x.hang(0);
        CHECK.due("12: finders(1), one call", x.finders(1), 2);
        CHECK.due("12: rule(1)", x.rule(1), 1);
    }

    private static void hunt() {
        StepCalls x = new StepCalls();
        for (int t = 0; t < 5; t++) {
            CHECK.due("13: hunt(" + t + ", 3)", x.hunt(t, 3), 0);
            CHECK.due("13: hunt(" + t + ", 1)", x.hunt(t, 1), 3);
            CHECK.due("13: hunt(" + t + ", 4)", x.hunt(t, 4), BAD);
            CHECK.due("13: hunt(" + t + ", -1)", x.hunt(t, -1), BAD);
            CHECK.due("13: group(" + t + ", 0)", x.group(t, 0), 1);
        }
        CHECK.due("13: hunt(5, 0)", x.hunt(5, 0), BAD);
        CHECK.due("13: hunt(-1, 0)", x.hunt(-1, 0), BAD);
    }

    private static void ways() {
        StepCalls x = Check.of("line 11;line 22;back 1 3;");
        CHECK.due("14: ways(1, 5)", x.ways(1, 5), BAD);
        CHECK.due("14: ways(1, -1)", x.ways(1, -1), BAD);
        CHECK.due("14: ways(5, 1)", x.ways(5, 1), BAD);
        CHECK.due("14: ways(-1, 1)", x.ways(-1, 1), BAD);
        x.dial(1, 11);
        CHECK.due("14: ways(1, 2), a call holds the third", x.ways(1, 2), STATE);
        CHECK.due("14: ways(1, 5), a call holds the third", x.ways(1, 5), BAD);
        CHECK.due("14: ways(1, 4), a call holds the third", x.ways(1, 4), 3);
        CHECK.due("14: ways(1, 3), a call holds the third", x.ways(1, 3), 4);
        x.hang(0);
        CHECK.due("14: ways(1, 0)", x.ways(1, 0), 3);
        CHECK.due("14: ways(2, 0)", x.ways(2, 0), 1);
        CHECK.due("14: group(1, 1)", x.group(1, 1), 0);
    }

    private static void waysThatGo() {
        StepCalls x = Check.of("line 11;on 3 4;");
        for (int i = 0; i < 6; i++) {
            x.dial(0, 33);
        }
        x.dead(3, 0, true);
        x.dead(3, 2, true);
        x.dead(3, 3, true);
        CHECK.due("14: ways(3, 2)", x.ways(3, 2), 4);
        CHECK.due("14: the first ones stay with USES", x.uses(3, 0), 2);
        CHECK.due("14: the first ones stay DEAD", x.group(3, 2), 1);
        CHECK.due("14: LATEST stays if it does not go", x.group(3, 4), 1);
        CHECK.due("14: ways(3, 4)", x.ways(3, 4), 2);
        CHECK.due("14: those that come anew have no USES", x.uses(3, 2), 0);
        CHECK.due("14: those that come anew have no USES", x.uses(3, 3), 0);
        CHECK.due("14: those that come anew are not DEAD", x.group(3, 2), 1);
        CHECK.due("14: ways(3, 1)", x.ways(3, 1), 4);
        CHECK.due("14: no LATEST if it goes", x.group(3, 4), NONE);
        CHECK.due("14: ways(3, 4)", x.ways(3, 4), 1);
        CHECK.due("14: no LATEST comes back", x.group(3, 4), NONE);
        CHECK.due("14: on hunts from the first then", x.group(3, 5), 0);
    }

    private static void dead() {
        StepCalls x = Check.of("line 11;home 2 3;");
        CHECK.due("15: dead(2, 1, true)", x.dead(2, 1, true), 0);
        CHECK.due("15: dead(2, 1, true) again", x.dead(2, 1, true), 1);
        CHECK.due("15: dead(2, 2, true)", x.dead(2, 2, true), 0);
        CHECK.due("15: group(2, 2)", x.group(2, 2), 6);
        CHECK.due("15: dead(2, 1, false)", x.dead(2, 1, false), 1);
        CHECK.due("15: dead(2, 1, false) again", x.dead(2, 1, false), 0);
        CHECK.due("15: group(2, 2)", x.group(2, 2), 4);
        CHECK.due("15: dead(2, 3, true)", x.dead(2, 3, true), BAD);
        CHECK.due("15: dead(2, -1, true)", x.dead(2, -1, true), BAD);
        CHECK.due("15: dead(5, 0, true)", x.dead(5, 0, true), BAD);
        CHECK.due("15: dead(-1, 0, true)", x.dead(-1, 0, true), BAD);
        x.ways(4, 0);
        CHECK.due("15: dead(4, 0, true) of no WAYS", x.dead(4, 0, true), BAD);
    }

    private static void plan() {
        StepCalls x = Check.of("line 11;line 12;");
        int[] none = {-1, 5, 19, 45, 50, 98, 100};
        for (int n : none) {
            CHECK.due("16: plan(0, " + n + ")", x.plan(0, n), BAD);
        }
        CHECK.due("16: plan(2, 0)", x.plan(2, 0), BAD);
        CHECK.due("16: plan(-1, 0)", x.plan(-1, 0), BAD);
        for (int i = 1; i <= 8; i++) {
            CHECK.due("16: plan(1, 99)", x.plan(1, i % 2 == 0 ? 99 : 44), i);
        }
        CHECK.due("16: plan(1, 99) as the 9th", x.plan(1, 99), FULL);
        CHECK.due("16: plan(2, 99) as the 9th", x.plan(2, 99), BAD);
        CHECK.due("16: plan(1, 5) as the 9th", x.plan(1, 5), BAD);
        CHECK.due("16: act(7, 1)", x.act(7, 1), 99);
        CHECK.due("16: act(6, 1)", x.act(6, 1), 44);
    }

    private static void cut() {
        StepCalls x = Check.of("line 11;plan 0 1 0 2 0 3;");
        CHECK.due("17: cut(4)", x.cut(4), BAD);
        CHECK.due("17: cut(-1)", x.cut(-1), BAD);
        CHECK.due("17: cut(3)", x.cut(3), 3);
        CHECK.due("17: cut(1)", x.cut(1), 3);
        CHECK.due("17: act(0, 1)", x.act(0, 1), 1);
        CHECK.due("17: act(1, 1)", x.act(1, 1), BAD);
        CHECK.due("17: plan(0, 4)", x.plan(0, 4), 2);
        CHECK.due("17: cut(0)", x.cut(0), 2);
        CHECK.due("17: cut(0) again", x.cut(0), 0);
    }
}
