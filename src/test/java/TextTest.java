/** Promises 1 to 10: a new object, the text, what is told of the state. */
public final class TextTest {
    private static final Check CHECK = new Check("TextTest");
    private static final int BAD = StepCalls.BAD, FULL = StepCalls.FULL, NONE = StepCalls.NONE;

    public static void main(String[] args) {
        newObject();
        tape();
        texts();
        faults();
        faultsInTheirOrder();
        whatATextReplaces();
        rule();
        one();
        group();
        uses();
        act();
        CHECK.finish();
    }

    private static void newObject() {
        StepCalls x = new StepCalls();
        int[] rules = {0, 2, 0, 0, 0, 0};
        for (int i = 0; i < rules.length; i++) {
            CHECK.due("1: rule(" + i + ") of a new one", x.rule(i), rules[i]);
        }
        int[] counts = {0, 0, 0, NONE, 5, 0};
        for (int i = 0; i < counts.length; i++) {
            CHECK.due("1: count(" + i + ") of a new one", x.count(i), counts[i]);
        }
        for (int t = 0; t < 5; t++) {
            int[] due = {0, 1, 0, 0, NONE, 0};
            for (int i = 0; i < due.length; i++) {
                CHECK.due("1: group(" + t + ", " + i + ") of a new one", x.group(t, i), due[i]);
            }
        }
        CHECK.due("1: one(0, 0) of a new one", x.one(0, 0), BAD);
        CHECK.due("1: fault() of a new one", x.fault(), 0);
        CHECK.due("1: torn() of a new one", x.torn(), 0);
        CHECK.due("1: back(0) of a new one", x.back(0), StepCalls.STATE);
        CHECK.due("1: lay(3, 0, 0) of a new one", x.lay(3, 0, 0), -11);
    }

    private static void tape() {
        StepCalls x = new StepCalls();
        CHECK.due("2: feed(-1)", x.feed(-1), BAD);
        CHECK.due("2: feed(128)", x.feed(128), BAD);
        CHECK.due("2: feed(0)", x.feed(0), 1);
        CHECK.due("2: feed(127)", x.feed(127), 2);
        CHECK.due("3: end(3)", x.end(3), BAD);
        CHECK.due("3: end(-1)", x.end(-1), BAD);
        CHECK.due("3: end(2)", x.end(2), 2);
        CHECK.due("3: end(1)", x.end(1), 2);
        CHECK.due("3: end(0)", x.end(0), 1);
        CHECK.due("3: end(0) again", x.end(0), 0);
        for (int i = 1; i <= 160; i++) {
            CHECK.due("2: feed(32)", x.feed(32), i);
        }
        CHECK.due("2: feed(32) as the 161st", x.feed(32), FULL);
        CHECK.due("2: feed(128) as the 161st", x.feed(128), BAD);
        CHECK.due("4: text() of 160 blanks", x.text(), 0);
        CHECK.due("4: THE TAPE is empty then", x.count(2), 0);
        Check.feed(x, "line 11;xx");
        CHECK.due("3: end(8)", x.end(8), 10);
        CHECK.due("4: text() of what was kept", x.text(), 1);
    }

    private static void texts() {
        tells("", 0);
        tells("   ", 0);
        tells("line 11;", 1);
        tells("line11;", 1);
        tells("  line   1 ;  ", 1);
        tells("line 01;line 2 0;", -25);
        tells("line 00;line 44;line 40;line 04;line 22;line 13;", 6);
        tells("finders 1;", 1);
        tells("finders 06;", 1);
        tells("home 0 0;on 1 4;back 2 1;spread 3 2;home 4 04;", 5);
        tells("plan;", 1);
        tells("plan 0 0;line 0;", 2);
        tells("plan 0 0 0 99 0 44 0 00 0 1 0 2 0 3 0 4;line 1;", 2);
    }

    private static void tells(String text, int due) {
        StepCalls x = new StepCalls();
        CHECK.due("4: text() of '" + text + "'", Check.text(x, text), due);
    }

    private static void faults() {
        faulty("line 11.", 1, 7);
        faulty("Line 11;", 1, 0);
        faulty("line\n11;", 1, 4);
        faulty("line 111;", 1, 5);
        faulty("line 0000;", 1, 5);
        faulty("-", 1, 0);
        faulty("x;", 2, 0);
        faulty("lines 11;", 2, 0);
        faulty("lin 11;", 2, 0);
        faulty("  lineline 11;", 2, 2);
        faulty("mine 11;", 2, 0);
        faulty("linz 11;", 2, 0);
        faulty("linez 11;", 2, 0);
        faulty("alin 11;", 2, 0);
        faulty("az{", 2, 0);
        faulty("{", 1, 0);
        faulty("`", 1, 0);
        faulty("/", 1, 0);
        faulty(":", 1, 0);
        faulty("11;", 2, 0);
        faulty(";", 2, 0);
        faulty("line;", 2, 4);
        faulty("line line;", 2, 5);
        faulty("line 11 12;", 2, 8);
        faulty("line 11", 2, 7);
        faulty("line 11  ", 2, 9);
        faulty("line", 2, 4);
        faulty("line 11;;", 2, 8);
        faulty("home 0;", 2, 6);
        faulty("home 0 1 1;", 2, 9);
        faulty("finders;", 2, 7);
        faulty("plan 0;", 2, 6);
        faulty("plan 0 1 0;", 2, 10);
        faulty("plan 0 1 line", 2, 9);
        faulty("plan 0 1", 2, 8);
        faulty("plan", 2, 4);
        faulty("line 45;", 3, 5);
        faulty("line 5;", 3, 5);
        faulty("line 50;", 3, 5);
        faulty("line 99;", 3, 5);
        faulty("finders 0;", 3, 8);
        faulty("finders 7;", 3, 8);
        faulty("home 5 1;", 3, 5);
        faulty("home 1 5;", 3, 7);
        faulty("plan 6 0;", 3, 5);
        faulty("plan 0 5;", 3, 7);
        faulty("plan 0 98;", 3, 7);
        faulty("plan 0 50;", 3, 7);
        faulty("finders 1;finders 1;", 4, 10);
        faulty("plan;plan;", 4, 5);
        faulty("line 1;line 01;", 4, 12);
        faulty("home 3 1;home 3 1;", 4, 14);
        faulty("spread 3 1;back 3 1;", 4, 16);
        faulty("line 0;line 1;line 2;line 3;line 4;line 10;line 11;", 5, 43);
        faulty("plan 0 0 0 0 0 0 0 0 0 0 0 0 0 0 0 0 0 0;", 5, 37);
        faulty("plan 0 0 0 0 0 0 0 0 0 0 0 0 0 0 0 0 77 0;", 5, 37);
        faulty("plan 0 0;", 6, 9);
        faulty("plan 0 0 1 0 2 0;line 0;line 1;  ", 6, 33);
        faulty("plan 5 99;line 0;line 1;line 2;line 3;line 4;", 6, 45);
        tells("plan 5 99;line 0;line 1;line 2;line 3;line 4;line 10;", 7);
    }

    /** The first that is met as it is read, a TOKEN being read when the one before has been taken. */
    private static void faultsInTheirOrder() {
        faulty("line 45!", 3, 5);
        faulty("line 1;line 1!", 4, 12);
        faulty("finders 1;finders!", 4, 10);
        faulty("plan;plan 777;", 4, 5);
        faulty("home 3 1;home 3 9;", 4, 14);
        faulty("line 0;line 1;line 2;line 3;line 4;line 10;line!", 5, 43);
        faulty("plan 0 0 0 0 0 0 0 0 0 0 0 0 0 0 0 0 777", 1, 37);
        faulty("plan 0 0 0 0 0 0 0 0 0 0 0 0 0 0 0 0 line", 2, 37);
        faulty("plan 0 0 0 0 0 0 0 0 0 0 0 0 0 0 0 0", 2, 36);
        faulty("plan 6!", 3, 5);
        faulty("plan 0 5!", 3, 7);
        faulty("plan 0!", 1, 6);
        faulty("plan 0 0;x", 2, 9);
    }

    private static void faulty(String text, int fault, int place) {
        StepCalls x = Check.of("line 12;finders 5;");
        CHECK.due("4: text() of '" + text + "'", Check.text(x, text), -10 - place);
        CHECK.due("5: fault() of '" + text + "'", x.fault(), fault);
        CHECK.due("4: THE TAPE is empty after '" + text + "'", x.count(2), 0);
        CHECK.due("4: what was told stays after '" + text + "'", 10 * x.rule(0) + x.rule(1), 15);
        CHECK.due("4: the NUMBER stays after '" + text + "'", x.one(0, 0), 12);
        x.text();
        CHECK.due("5: fault() of a text that is taken", x.fault(), 0);
    }

    private static void whatATextReplaces() {
        StepCalls x = Check.of("line 11;line 22;finders 4;on 1 3;back 2 2;plan 0 22;");
        x.dead(1, 2, true);
        x.dial(0, 11);
        x.dial(0, 22);
        x.see(0, 6);
        x.keep(0);
        x.keep(1);
        Check.fill(x, 2, 7, 8, 9);
        x.read(0, 1, 0, 1);
        CHECK.due("4: text()", Check.text(x, "line 33;"), 1);
        int[] rules = {1, 2, 0, 0, 0, 0};
        for (int i = 0; i < rules.length; i++) {
            CHECK.due("4: rule(" + i + ") behind a text", x.rule(i), rules[i]);
        }
        for (int t = 0; t < 5; t++) {
            int[] due = {0, 1, 0, 0, NONE, 0};
            for (int i = 0; i < due.length; i++) {
                CHECK.due("4: group(" + t + ", " + i + ") behind a text", x.group(t, i), due[i]);
            }
            CHECK.due("4: uses(" + t + ", 0) behind a text", x.uses(t, 0), 0);
        }
        CHECK.due("4: nothing is SEEN", x.count(0), 0);
        CHECK.due("4: IMAGES are gone", x.count(1), 0);
        CHECK.due("4: IMAGES are gone", x.back(0), StepCalls.STATE);
        CHECK.due("4: IMAGES are gone", x.back(1), StepCalls.STATE);
        CHECK.due("4: SHEETS stay", x.count(3), 3);
        CHECK.due("4: torn() stays", x.torn(), 3);
        CHECK.due("4: one(0, 0)", x.one(0, 0), 33);
        String told = "finders 3;plan 0 11;line 11;on 1 2;back 2 3;spread 3 0;home 4 1;";
        CHECK.due("4: a text once", Check.text(x, told), 7);
        CHECK.due("4: the same text once more", Check.text(x, told), 7);
        CHECK.due("4: one(0, 0)", x.one(0, 0), 11);
        Check.text(x, "line 33;");
        x.see(0, 0);
        x.keep(0);
        x.dial(0, 33);
        CHECK.due("4: a text that is refused", Check.text(x, "line 33;line"), -22);
        CHECK.due("4: by a FAULT what is SEEN stays", x.count(0), 1);
        CHECK.due("4: by a FAULT IMAGES stay", x.count(1), 1);
        CHECK.due("4: by a FAULT USES stay", x.rule(4), 1);
    }

    private static void rule() {
        StepCalls x = Check.of("line 11;line 22;line 33;finders 4;plan 0 0 1 99;");
        x.dial(2, 11);
        x.dial(1, 44);
        int[] due = {3, 4, 1, 2, 2, 5};
        for (int i = 0; i < due.length; i++) {
            CHECK.due("6: rule(" + i + ")", x.rule(i), due[i]);
        }
        CHECK.due("6: rule(-1)", x.rule(-1), BAD);
        CHECK.due("6: rule(6)", x.rule(6), BAD);
        x.ways(4, 0);
        CHECK.due("6: USES of a WAY that goes are gone", x.rule(4), 1);
    }

    private static void one() {
        StepCalls x = Check.of("line 11;line 22;line 33;back 3 3;");
        x.dial(0, 33);
        int[][] due = {{11, 2, 1, 32}, {22, NONE, 0, NONE}, {33, 0, 2, 32}};
        for (int a = 0; a < 3; a++) {
            for (int i = 0; i < 4; i++) {
                CHECK.due("7: one(" + a + ", " + i + ")", x.one(a, i), due[a][i]);
            }
        }
        CHECK.due("7: one(3, 0)", x.one(3, 0), BAD);
        CHECK.due("7: one(-1, 0)", x.one(-1, 0), BAD);
        CHECK.due("7: one(0, 4)", x.one(0, 4), BAD);
        CHECK.due("7: one(0, -1)", x.one(0, -1), BAD);
        x.hang(2);
        CHECK.due("7: one(0, 1) in no call any more", x.one(0, 1), NONE);
        CHECK.due("7: one(0, 2) in no call any more", x.one(0, 2), 0);
        CHECK.due("7: one(2, 3) in no call any more", x.one(2, 3), NONE);
    }

    private static void group() {
        StepCalls x = Check.of("line 11;line 22;line 33;spread 3 4;on 4 0;");
        x.dead(3, 3, true);
        x.dead(3, 1, true);
        x.dial(0, 33);
        int[] due = {3, 4, 10, 1, 0, 1};
        for (int i = 0; i < due.length; i++) {
            CHECK.due("8: group(3, " + i + ")", x.group(3, i), due[i]);
        }
        int[] none = {1, 0, 0, 0, NONE, NONE};
        for (int i = 0; i < none.length; i++) {
            CHECK.due("8: group(4, " + i + ")", x.group(4, i), none[i]);
        }
        CHECK.due("8: group(5, 0)", x.group(5, 0), BAD);
        CHECK.due("8: group(-1, 0)", x.group(-1, 0), BAD);
        CHECK.due("8: group(0, 6)", x.group(0, 6), BAD);
        CHECK.due("8: group(0, -1)", x.group(0, -1), BAD);
        x.finders(1);
        CHECK.due("8: group(3, 5) is of the GROUP alone, FINDERS held or not", x.group(3, 5), 1);
        x.ways(3, 1);
        CHECK.due("8: group(3, 5) of one that is held", x.group(3, 5), NONE);
    }

    private static void uses() {
        StepCalls x = Check.of("line 11;on 3 2;");
        x.dial(0, 33);
        x.dial(0, 33);
        x.dial(0, 33);
        CHECK.due("9: uses(3, 0)", x.uses(3, 0), 2);
        CHECK.due("9: uses(3, 1)", x.uses(3, 1), 1);
        CHECK.due("9: uses(3, 2)", x.uses(3, 2), BAD);
        CHECK.due("9: uses(3, -1)", x.uses(3, -1), BAD);
        CHECK.due("9: uses(5, 0)", x.uses(5, 0), BAD);
        CHECK.due("9: uses(-1, 0)", x.uses(-1, 0), BAD);
    }

    private static void act() {
        StepCalls x = Check.of("line 11;line 12;plan 1 44 0 99;");
        CHECK.due("10: act(0, 0)", x.act(0, 0), 1);
        CHECK.due("10: act(0, 1)", x.act(0, 1), 44);
        CHECK.due("10: act(1, 0)", x.act(1, 0), 0);
        CHECK.due("10: act(1, 1)", x.act(1, 1), 99);
        CHECK.due("10: act(2, 0)", x.act(2, 0), BAD);
        CHECK.due("10: act(-1, 0)", x.act(-1, 0), BAD);
        CHECK.due("10: act(0, 2)", x.act(0, 2), BAD);
        CHECK.due("10: act(0, -1)", x.act(0, -1), BAD);
    }
}
