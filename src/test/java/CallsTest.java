/** Promises 18 to 22: calls, and calls by the plan. */
public final class CallsTest {
    private static final Check CHECK = new Check("CallsTest");
    private static final int BAD = StepCalls.BAD, STATE = StepCalls.STATE, NONE = StepCalls.NONE;

    public static void main(String[] args) {
        fates();
        fatesInTheirOrder();
        wrongDials();
        home();
        on();
        back();
        spread();
        hang();
        runs();
        fateAndAhead();
        nothingIsChangedByThePlan();
        CHECK.finish();
    }

    private static void fates() {
        StepCalls x = Check.of("line 11;line 22;line 33;line 44;home 2 0;finders 6;");
        CHECK.due("18: no WAY", x.dial(0, 22), 2);
        CHECK.due("18: no WAY is taken then", x.rule(4), 0);
        CHECK.due("18: nobody", x.dial(0, 10), 4);
        CHECK.due("18: a USE by nobody", x.uses(1, 0), 1);
        CHECK.due("18: the WAY is free again", x.group(1, 3), 0);
        CHECK.due("18: he himself", x.dial(0, 11), 5);
        CHECK.due("18: he himself is in no call", x.one(0, 2), 0);
        CHECK.due("18: a USE by him himself", x.uses(1, 0), 2);
        x.dead(3, 0, true);
        CHECK.due("18: silence", x.dial(0, 33), 3);
        CHECK.due("18: a USE by silence", x.uses(3, 0), 1);
        CHECK.due("18: the LATEST by silence", x.group(3, 4), 0);
        CHECK.due("18: no call by silence", x.rule(2), 0);
        CHECK.due("18: connected", x.dial(0, 44), 0);
        CHECK.due("18: busy, he was called", x.ways(4, 2) + x.dial(1, 44), 1 + 5);
        CHECK.due("18: busy, he called", x.dial(1, 11), 5);
        CHECK.due("18: no more WAY there", x.ways(4, 1) + x.dial(1, 44), 2 + 2);
        CHECK.due("18: calls", x.rule(2), 1);
        x.finders(1);
        CHECK.due("18: no FINDER", x.dial(1, 11), 1);
        CHECK.due("18: no USE for want of a FINDER", x.uses(1, 0), 3);
    }

    private static void fatesInTheirOrder() {
        StepCalls x = Check.of("line 11;line 22;line 33;finders 1;home 0 0;");
        x.dial(0, 22);
        x.dead(1, 0, true);
        CHECK.due("18: no FINDER ahead of no WAY", x.dial(2, 0), 1);
        CHECK.due("18: no FINDER ahead of silence", x.dial(2, 11), 1);
        x.finders(2);
        CHECK.due("18: no WAY ahead of nobody", x.dial(2, 0), 2);
        CHECK.due("18: silence ahead of nobody", x.dial(2, 10), 3);
        CHECK.due("18: silence ahead of busy", x.dial(2, 11), 3);
        CHECK.due("18: no WAY ahead of him himself", x.ways(3, 0) + x.dial(2, 33), 1 + 2);
    }

    private static void wrongDials() {
        StepCalls x = Check.of("line 11;line 22;");
        int[] none = {-1, 5, 15, 45, 50, 98, 99, 100};
        for (int n : none) {
            CHECK.due("18: dial(0, " + n + ")", x.dial(0, n), BAD);
        }
        CHECK.due("18: dial(2, 11)", x.dial(2, 11), BAD);
        CHECK.due("18: dial(-1, 11)", x.dial(-1, 11), BAD);
        x.dial(0, 22);
        CHECK.due("18: dial(0, 11) in a call", x.dial(0, 11), STATE);
        CHECK.due("18: dial(1, 11) in a call", x.dial(1, 11), STATE);
        CHECK.due("18: dial(1, 99) in a call", x.dial(1, 99), BAD);
        CHECK.due("18: what is refused changes nothing", x.rule(4), 1);
    }

    private static void home() {
        StepCalls x = Check.of("line 11;line 22;line 33;line 44;home 4 3;finders 6;");
        x.dial(0, 40);
        CHECK.due("18: home takes the first again", x.group(4, 5), 0);
        x.dial(0, 44);
        CHECK.due("18: home takes the first that is free", x.group(4, 5), 1);
        x.dial(1, 43);
        x.dial(1, 42);
        CHECK.due("18: home comes home", x.uses(4, 1), 2);
        x.hang(3);
        CHECK.due("18: home comes home to the first", x.group(4, 5), 0);
    }

    private static void on() {
        StepCalls x = Check.of("line 11;line 22;line 33;line 44;on 4 3;finders 6;");
        CHECK.due("18: on begins by the first", x.group(4, 5), 0);
        x.dial(0, 40);
        CHECK.due("18: on goes on", x.group(4, 5), 1);
        x.dial(0, 44);
        CHECK.due("18: on holds the second", x.one(0, 3), 41);
        x.dial(1, 43);
        CHECK.due("18: on goes round", x.group(4, 5), 0);
        x.dial(1, 43);
        CHECK.due("18: on goes over the one that is held", x.group(4, 5), 2);
        x.ways(4, 2);
        CHECK.due("18: on comes back to the LATEST itself", x.group(4, 5), 0);
    }

    private static void back() {
        StepCalls x = Check.of("line 11;line 22;line 33;line 44;back 4 3;finders 6;");
        x.dial(0, 40);
        CHECK.due("18: back takes the last again", x.group(4, 5), 2);
        x.dial(0, 44);
        CHECK.due("18: back takes the last that is free", x.group(4, 5), 1);
        x.dead(4, 1, true);
        CHECK.due("18: DEAD ones are taken, too", x.group(4, 5), 1);
        CHECK.due("18: back into silence", x.dial(1, 11) + 10 * x.dial(1, 44), 5 + 30);
    }

    private static void spread() {
        StepCalls x = Check.of("line 11;line 22;line 33;line 44;spread 4 3;finders 6;");
        CHECK.due("18: spread begins by the first", x.group(4, 5), 0);
        x.dial(0, 40);
        x.hunt(4, 2);
        x.dial(0, 40);
        x.hunt(4, 3);
        CHECK.due("18: spread takes the one of fewest USES", x.group(4, 5), 1);
        x.dial(0, 40);
        CHECK.due("18: of several the first as on takes them", x.group(4, 5), 2);
        x.dial(0, 44);
        CHECK.due("18: round to the first", x.group(4, 5), 0);
        x.dial(1, 40);
        x.dial(1, 40);
        CHECK.due("18: the one of fewest USES is held", x.uses(4, 0) * 10 + x.uses(4, 1), 22);
        x.dial(1, 40);
        CHECK.due("18: of those that are free", x.group(4, 5), 1);
    }

    private static void hang() {
        StepCalls x = Check.of("line 11;line 22;line 33;line 44;");
        x.dial(0, 22);
        x.dial(3, 33);
        CHECK.due("19: hang(1), who was called", x.hang(1), 0);
        CHECK.due("19: the other one is in no call, too", x.hang(0), STATE);
        CHECK.due("19: the other call stays", x.rule(5), 12);
        CHECK.due("19: the WAY is free", x.group(2, 3), 0);
        CHECK.due("19: the other WAY is held", x.group(3, 3), 1);
        CHECK.due("19: hang(3), who called", x.hang(3), 2);
        CHECK.due("19: calls", x.rule(2), 0);
        CHECK.due("19: hang(4)", x.hang(4), BAD);
        CHECK.due("19: hang(-1)", x.hang(-1), BAD);
        CHECK.due("19: USES stay", x.rule(4), 2);
    }

    private static void runs() {
        StepCalls x = Check.of("line 11;line 22;line 33;line 44;plan 0 99 0 22 1 33 2 10 2 44 3 99 2 30 1 20;");
        // passed over, connected, passed over, nobody, connected, hung up, nobody, passed over
        int[] due = {2, 2, 3, 1, 3};
        for (int i = 0; i < due.length; i++) {
            CHECK.due("20: runs(" + i + ")", x.runs(i), due[i]);
        }
        CHECK.due("20: runs(5)", x.runs(5), BAD);
        CHECK.due("20: runs(-1)", x.runs(-1), BAD);
        x.cut(2);
        CHECK.due("20: runs(2) of none LOST", x.runs(2), NONE);
        CHECK.due("20: runs(3)", x.runs(3), 1);
        x.dial(2, 44);
        CHECK.due("20: runs(3) from now on", x.runs(3), 2);
        x.finders(1);
        CHECK.due("20: runs(2) from now on", x.runs(2), 1);
        x.cut(0);
        int[] none = {0, 0, NONE, 1, 0};
        for (int i = 0; i < none.length; i++) {
            CHECK.due("20: runs(" + i + ") of no ACTS", x.runs(i), none[i]);
        }
    }

    private static void fateAndAhead() {
        StepCalls x = Check.of("line 11;line 22;line 33;line 44;plan 0 99 0 22 1 33 2 10 2 44 3 99 0 99 1 33;");
        int[] fates = {6, 0, 6, 4, 0, 0, 0, 0};
        for (int i = 0; i < fates.length; i++) {
            CHECK.due("21: fate(" + i + ")", x.fate(i), fates[i]);
        }
        CHECK.due("21: fate(8)", x.fate(8), BAD);
        CHECK.due("21: fate(-1)", x.fate(-1), BAD);
        int[] with = {NONE, 2, 1, NONE};
        for (int a = 0; a < with.length; a++) {
            CHECK.due("22: ahead(" + a + ")", x.ahead(a), with[a]);
        }
        CHECK.due("22: ahead(4)", x.ahead(4), BAD);
        CHECK.due("22: ahead(-1)", x.ahead(-1), BAD);
        x.cut(7);
        CHECK.due("21: fate(7) of 7 ACTS", x.fate(7), BAD);
        x.dial(0, 22);
        CHECK.due("21: from now on fate(0)", x.fate(0), 0);
        CHECK.due("22: from now on ahead(3)", x.ahead(2), NONE);
    }

    private static void nothingIsChangedByThePlan() {
        StepCalls x = Check.of("line 11;line 22;plan 0 22 1 11;");
        x.runs(0);
        x.fate(0);
        x.ahead(0);
        CHECK.due("20: calls stay", x.rule(2), 0);
        CHECK.due("20: USES stay", x.rule(4), 0);
        CHECK.due("20: the LATEST stays", x.group(2, 4), NONE);
    }
}
