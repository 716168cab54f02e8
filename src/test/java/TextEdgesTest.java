/** "THE TAPE .. TOKENS .. FAULTS, the first met as it is read": the edges of promises 2 to 5. */
public final class TextEdgesTest {
    private static final Check CHECK = new Check("TextEdgesTest");
    private static final int FULL = StepCalls.FULL, NONE = StepCalls.NONE;

    /** What can come behind what has been read: a row tells the FAULT of each of NEXT, 0 if the TOKEN is taken. */
    private static final String[] NEXT = {"", ".", "000", "zz", "line", "finders", ";", "0", "3", "05", "7", "45", "99"};
    private static final Object[][] BEHIND = {
        //                                               end  .  000 zz line find ;  0  3  05 7  45 99
        {"",                                   new int[] {0, 1, 1, 2, 0, 0, 2, 2, 2, 2, 2, 2, 2}},
        {"line",                               new int[] {2, 1, 1, 2, 2, 2, 2, 0, 0, 3, 3, 3, 3}},
        {"line 11",                            new int[] {2, 1, 1, 2, 2, 2, 0, 2, 2, 2, 2, 2, 2}},
        {"line 11;",                           new int[] {0, 1, 1, 2, 0, 0, 2, 2, 2, 2, 2, 2, 2}},
        {"finders",                            new int[] {2, 1, 1, 2, 2, 2, 2, 3, 0, 0, 3, 3, 3}},
        {"finders 1",                          new int[] {2, 1, 1, 2, 2, 2, 0, 2, 2, 2, 2, 2, 2}},
        {"finders 1;",                         new int[] {0, 1, 1, 2, 0, 4, 2, 2, 2, 2, 2, 2, 2}},
        {"home",                               new int[] {2, 1, 1, 2, 2, 2, 2, 0, 0, 3, 3, 3, 3}},
        {"on 1",                               new int[] {2, 1, 1, 2, 2, 2, 2, 0, 0, 3, 3, 3, 3}},
        {"back 1 4",                           new int[] {2, 1, 1, 2, 2, 2, 0, 2, 2, 2, 2, 2, 2}},
        {"spread 3 0; home",                   new int[] {2, 1, 1, 2, 2, 2, 2, 0, 4, 3, 3, 3, 3}},
        {"spread 3 0; on",                     new int[] {2, 1, 1, 2, 2, 2, 2, 0, 4, 3, 3, 3, 3}},
        {"home 3 0; back",                     new int[] {2, 1, 1, 2, 2, 2, 2, 0, 4, 3, 3, 3, 3}},
        {"back 0 4; spread",                   new int[] {2, 1, 1, 2, 2, 2, 2, 4, 0, 3, 3, 3, 3}},
        {"plan",                               new int[] {2, 1, 1, 2, 2, 2, 0, 0, 0, 0, 3, 3, 3}},
        {"plan 5",                             new int[] {2, 1, 1, 2, 2, 2, 2, 0, 0, 3, 3, 3, 0}},
        {"plan 0 99",                          new int[] {2, 1, 1, 2, 2, 2, 0, 0, 0, 0, 3, 3, 3}},
        {"plan 0 1 0 1 0 1 0 1 0 1 0 1 0 1",   new int[] {2, 1, 1, 2, 2, 2, 0, 0, 0, 0, 3, 3, 3}},
        {"plan 0 1 0 1 0 1 0 1 0 1 0 1 0 1 0 99", new int[] {2, 1, 1, 2, 2, 2, 0, 5, 5, 5, 5, 5, 5}},
        {"line 3; line",                       new int[] {2, 1, 1, 2, 2, 2, 2, 0, 4, 3, 3, 3, 3}},
        {"line 0; line 1; line 2; line 3; line",  new int[] {2, 1, 1, 2, 2, 2, 2, 4, 4, 3, 3, 3, 3}},
        {"line 0; line 1; line 2; line 4; line 10; line", new int[] {2, 1, 1, 2, 2, 2, 2, 4, 0, 3, 3, 3, 3}},
        {"line 0; line 1; line 2; line 4; line 10; line 3;", new int[] {0, 1, 1, 2, 5, 0, 2, 2, 2, 2, 2, 2, 2}},
    };

    public static void main(String[] args) {
        everyTokenBehindAll();
        tape();
        emptyTape();
        signs();
        longTokens();
        blanks();
        names();
        numbersOfLines();
        boundsOfNumbers();
        mostLines();
        onesThatThereAreNot();
        secondTimes();
        placesAtTheEnd();
        aFaultLeavesAll();
        CHECK.finish();
    }

    private static void everyTokenBehindAll() {
        for (Object[] row : BEHIND) {
            int[] faults = (int[]) row[1];
            for (int i = 0; i < NEXT.length; i++) {
                String text = row[0] + " " + NEXT[i];
                int place = row[0].toString().length() + 1;
                if (faults[i] != 0) {
                    faulty(text, faults[i], place);
                }
                if (!NEXT[i].isEmpty()) {
                    // what is taken is seen by the FAULT of what comes behind it
                    faulty(text + ".", faults[i] == 0 ? 1 : faults[i], faults[i] == 0 ? text.length() : place);
                }
            }
        }
    }

    private static void faulty(String text, int fault, int place) {
        StepCalls x = Check.of("line 12;finders 5;");
        CHECK.due("4: text() of '" + text + "'", Check.text(x, text), -10 - place);
        CHECK.due("5: fault() of '" + text + "'", x.fault(), fault);
        CHECK.due("4: THE TAPE is empty by a FAULT, too, '" + text + "'", x.count(2), 0);
        CHECK.due("4: what was told stays by '" + text + "'", 100 * x.rule(0) + 10 * x.rule(1) + x.rule(3), 150);
        CHECK.due("4: the NUMBER stays by '" + text + "'", x.one(0, 0), 12);
    }

    private static void tells(String text, int lines) {
        StepCalls x = Check.of("line 12;finders 5;");
        CHECK.due("4: text() of '" + text + "'", Check.text(x, text), lines);
        CHECK.due("5: fault() of '" + text + "'", x.fault(), 0);
        CHECK.due("4: THE TAPE is empty behind '" + text + "'", x.count(2), 0);
    }

    /** "THE TAPE has 160 bytes, places from 0", "FULL: more than 160". */
    private static void tape() {
        StepCalls x = new StepCalls();
        for (int i = 1; i <= 160; i++) {
            CHECK.due("2: the byte " + i, x.feed(i == 160 ? ';' : ' '), i);
        }
        for (int c = 0; c < 128; c += 127) {
            CHECK.due("2: more than 160", x.feed(c), FULL);
        }
        CHECK.due("2: what is refused changes nothing", x.count(2), 160);
        CHECK.due("3: end(161)", x.end(161), StepCalls.BAD);
        CHECK.due("4: the byte at 159 is read", x.text(), -10 - 159);
        CHECK.due("5: its FAULT", x.fault(), 2);
        CHECK.due("2: THE TAPE is empty then", x.feed('x'), 1);
        StepCalls y = Given.full();
        CHECK.due("3: end(159) of a full one", y.end(159), 160);
        CHECK.due("2: one more has room", y.feed(';'), 160);
        CHECK.due("2: one more has none", y.feed(';'), FULL);
        CHECK.due("4: what came in its room is read", y.text(), -10 - 159);
        StepCalls z = new StepCalls();
        Check.feed(z, "line 11; x");
        CHECK.due("3: end(n) of all", z.end(10), 10);
        CHECK.due("3: all stay", z.count(2), 10);
        CHECK.due("3: end(9)", z.end(9), 10);
        CHECK.due("3: end(10), one more than there are", z.end(10), StepCalls.BAD);
        CHECK.due("3: the first ones stay", z.text(), 1);
        CHECK.due("3: of an empty one", z.end(0), 0);
        CHECK.due("3: of an empty one, one more", z.end(1), StepCalls.BAD);
    }

    /** "A text that is taken tells all, in place of what there was": so does an empty one. */
    private static void emptyTape() {
        StepCalls x = Given.part();
        x.end(0);
        CHECK.due("4: an empty TAPE: no lines", x.text(), 0);
        CHECK.due("5: fault()", x.fault(), 0);
        int[] rules = {0, 2, 0, 0, 0, 0};
        for (int i = 0; i < rules.length; i++) {
            CHECK.due("4: rule(" + i + ") behind no lines", x.rule(i), rules[i]);
        }
        for (int t = 0; t < 5; t++) {
            int[] due = {0, 1, 0, 0, NONE, 0};
            for (int i = 0; i < due.length; i++) {
                CHECK.due("4: group(" + t + ", " + i + ") behind no lines", x.group(t, i), due[i]);
            }
            CHECK.due("4: uses(" + t + ", 0) behind no lines", x.uses(t, 0), 0);
        }
        int[] counts = {0, 0, 0, 6, 5, 0};
        for (int i = 0; i < counts.length; i++) {
            CHECK.due("4: count(" + i + ") behind no lines", x.count(i), counts[i]);
        }
        CHECK.due("4: the old IMAGE is gone", x.back(1), StepCalls.STATE);
        CHECK.due("4: SHEETS stay", x.lay(1, 3, 0), 1);
        CHECK.due("4: SHEETS stay", x.lay(2, 0, 0), -12);
        CHECK.due("4: SHEETS stay", x.lay(3, 0, 0), -11);
    }

    /** "the sign ; (a point is none)": of all bytes a .. z, 0 .. 9, ; and the blank alone are fit for TOKENS. */
    private static void signs() {
        for (int c = 0; c < 128; c++) {
            StepCalls x = new StepCalls();
            x.feed(c);
            boolean token = c >= 'a' && c <= 'z' || c >= '0' && c <= '9' || c == ';';
            CHECK.due("4: the byte " + c, x.text(), c == 32 ? 0 : -10);
            CHECK.due("5: the byte " + c, x.fault(), c == 32 ? 0 : token ? 2 : 1);
            Check.feed(x, "line 1");
            x.feed(c);
            Check.feed(x, ";");
            boolean figure = c >= '0' && c <= '4';
            CHECK.due("4: the byte " + c + " behind a NUMBER", x.text(), c == 32 || figure ? 1 : c >= '5' && c <= '9' ? -15 : c == ';' ? -17 : -16);
        }
    }

    /** "TOKENS, each as long as may be", "1 .. a NUMBER that is too long (its first byte)". */
    private static void longTokens() {
        faulty("line 000;", 1, 5);
        faulty("line 111;", 1, 5);
        faulty("line 0000000000000000000000000000000000000000;", 1, 5);
        faulty("home 1 011;", 1, 7);
        faulty("plan 0 999;", 1, 7);
        faulty("plan 000 9;", 1, 5);
        faulty("finders 002;", 1, 8);
        faulty("123", 1, 0);
        faulty("  123", 1, 2);
        faulty("12", 2, 0);
        faulty("line 11; 111", 1, 9);
        faulty("line 11 111", 1, 8);
        faulty("lin", 2, 0);
        faulty("linee 11;", 2, 0);
        faulty("planline 11;", 2, 0);
        faulty("ononononon 11;", 2, 0);
        StringBuilder text = new StringBuilder();
        for (int i = 0; i < 160; i++) {
            text.append('1');
        }
        faulty(text.toString(), 1, 0);
        faulty(text.toString().replace('1', 'a'), 2, 0);
        faulty(text.toString().replace('1', '.'), 1, 0);
    }

    /** "blanks (32) ahead, between, behind, as many as wanted (at least one between two NAMES, between two NUMBERS; else none is needed)". */
    private static void blanks() {
        tells("line11;line12;finders2;home0 1;plan0 11 1 99;", 5);
        tells("line11;line12;on1 2;back2 3;spread4 0;", 5);
        tells("   line   11   ;   line   12   ;   plan   0   11   1   99   ;   ", 3);
        faulty("home01;", 2, 6);
        faulty("on12;", 3, 2);
        faulty("plan011;", 1, 4);
        faulty("plan0 110 11;", 1, 6);
        faulty("line 1 1;", 2, 7);
        faulty("li ne 11;", 2, 0);
        faulty("line\t11;", 1, 4);
        faulty("line 11;\n", 1, 8);
        faulty("line 11;\0", 1, 8);
        StringBuilder text = new StringBuilder("line");
        for (int i = 0; i < 153; i++) {
            text.append(' ');
        }
        CHECK.due("4: 160 bytes, most of them blanks", Check.text(new StepCalls(), text + "11;"), 1);
    }

    /** "2 .. (a NAME that begins no line ..)": seven do, whole, and no other. */
    private static void names() {
        String[] all = {"line 1;", "finders 1;", "home 1 1;", "on 1 1;", "back 1 1;", "spread 1 1;", "plan;"};
        for (String line : all) {
            tells(line, 1);
            faulty("x" + line, 2, 0);
            faulty(line.substring(1), 2, 0);
            int behind = line.indexOf(line.contains(" ") ? ' ' : ';');
            faulty(line.substring(0, behind) + "x" + line.substring(behind), 2, 0);
            faulty(line.substring(0, behind - 1) + line.substring(behind), 2, 0);
            faulty(line.substring(0, behind - 1) + "z" + line.substring(behind), 2, 0);
            faulty(line.substring(0, behind - 1) + " " + line.substring(behind - 1), 2, 0);
        }
        String[] none = {"a", "z", "f", "lines", "ways", "dead", "hang", "dial", "grou", "group", "lineb", "homeon"};
        for (String name : none) {
            faulty(name + " 1 1;", 2, 0);
        }
    }

    /** "a NUMBER: two figures 0 to 4, as 10 times the first and the second": each NUMBER of one, of two figures. */
    private static void numbersOfLines() {
        for (int n = 0; n < 100; n++) {
            boolean fine = n / 10 <= 4 && n % 10 <= 4;
            StepCalls x = new StepCalls();
            CHECK.due("4: line " + n, Check.text(x, "line " + n + ";"), fine ? 1 : -15);
            CHECK.due("5: line " + n, x.fault(), fine ? 0 : 3);
            CHECK.due("7: line " + n, x.one(0, 0), fine ? n : StepCalls.BAD);
            if (n < 10) {
                CHECK.due("4: line 0" + n, Check.text(x, "line 0" + n + ";"), fine ? 1 : -15);
            }
            StepCalls y = new StepCalls();
            boolean dialled = fine || n == 99;
            CHECK.due("4: plan 0 " + n, Check.text(y, "line 0;plan 0 " + n + ";"), dialled ? 2 : -24);
            CHECK.due("10: plan 0 " + n, y.act(0, 1), dialled ? n : StepCalls.BAD);
        }
    }

    private static void boundsOfNumbers() {
        for (int n = 0; n < 100; n++) {
            StepCalls x = new StepCalls();
            CHECK.due("4: finders " + n, Check.text(x, "finders " + n + ";"), n >= 1 && n <= 6 ? 1 : -18);
            CHECK.due("6: finders " + n, x.rule(1), n >= 1 && n <= 6 ? n : 2);
            StepCalls y = new StepCalls();
            CHECK.due("4: on " + n + " 2", Check.text(y, "on " + n + " 2;"), n <= 4 ? 1 : -13);
            CHECK.due("8: on " + n + " 2", y.group(n, 0), n <= 4 ? 1 : StepCalls.BAD);
            StepCalls z = new StepCalls();
            CHECK.due("4: back 2 " + n, Check.text(z, "back 2 " + n + ";"), n <= 4 ? 1 : -17);
            CHECK.due("8: back 2 " + n, z.group(2, 1), n <= 4 ? n : 1);
            StepCalls u = new StepCalls();
            CHECK.due("4: plan " + n + " 1", Check.text(u, "line0;line1;line2;line3;line4;line10;plan " + n + " 1;"), n <= 5 ? 7 : -10 - 42);
        }
    }

    /** "5 the 7th line", "a 9th ACT": 6 lines, 8 ACTS, one of all else are taken, in whatever order. */
    private static void mostLines() {
        tells("line0;line1;line2;line3;line4;line10;finders6;home0 4;on1 4;back2 4;spread3 4;home4 4;plan0 1 0 1 0 1 0 1 0 1 0 1 0 1 0 1;", 13);
        tells("plan0 1 0 1 0 1 0 1 0 1 0 1 0 1 0 1;home4 4;spread3 4;back2 4;on1 4;home0 4;finders6;line0;line1;line2;line3;line4;line10;", 13);
        StepCalls x = new StepCalls();
        Check.text(x, "line0;line1;line2;line3;line4;line10;finders6;plan0 1 1 2 2 3 3 4 4 10 5 0 0 99 1 44;spread3 4;");
        int[] numbers = {0, 1, 2, 3, 4, 10};
        for (int a = 0; a < 6; a++) {
            CHECK.due("7: the NUMBER of " + a, x.one(a, 0), numbers[a]);
        }
        int[] plan = {0, 1, 1, 2, 2, 3, 3, 4, 4, 10, 5, 0, 0, 99, 1, 44};
        for (int i = 0; i < 8; i++) {
            CHECK.due("10: who, of " + i, x.act(i, 0), plan[2 * i]);
            CHECK.due("10: what, of " + i, x.act(i, 1), plan[2 * i + 1]);
        }
        CHECK.due("4: WAYS told", x.count(4), 8);
        faulty("line0;line1;line2;line3;line4;line10;finders6;line", 5, 46);
        faulty("line0;line1;line2;line3;line4;line10;finders6;line 45", 5, 46);
        faulty("line0;line1;line2;line3;line4;line10;line 0;", 5, 37);
        faulty("line0;line1;line2;line3;line4;line10;xx", 2, 37);
    }

    /** "Behind all (the length): 6 a ONE that there is not." */
    private static void onesThatThereAreNot() {
        String lines = "line0;line1;line2;line3;line4;line10;";
        for (int ones = 0; ones <= 6; ones++) {
            for (int a = 0; a <= 5; a++) {
                String told = lines.substring(0, ones == 6 ? lines.length() : 6 * ones);
                String[] texts = {told + "plan " + a + " 0;", "plan " + a + " 99;" + told, "plan 0 0 " + a + " 0;" + told, "plan " + a + " 0 0 0;" + told + "  "};
                for (String text : texts) {
                    if (a < ones) {
                        tells(text, ones + 1);
                    } else {
                        faulty(text, 6, text.length());
                    }
                }
            }
        }
        faulty("plan 5 0;.", 1, 9);
        faulty("plan 5 0;plan", 4, 9);
        faulty("plan 5 45;", 3, 7);
    }

    /** "4 finders, plan for the second time (its NAME); a NUMBER of a line, a GROUP that is told already (it)". */
    private static void secondTimes() {
        faulty("finders 2;finders 3;", 4, 10);
        faulty("finders 2;plan;finders", 4, 15);
        faulty("plan;finders 2;plan", 4, 15);
        faulty("plan;plan 6", 4, 5);
        faulty("line 1;line 2;line 01;", 4, 19);
        faulty("line 10;line 01;line 10;", 4, 21);
        String[] kinds = {"home", "on", "back", "spread"};
        for (String first : kinds) {
            for (String second : kinds) {
                for (int t = 0; t < 5; t++) {
                    String told = first + " " + t + " 1;" + second + " ";
                    faulty(told + t + " 5;", 4, told.length());
                    faulty(told + "0" + t + " 1;", 4, told.length());
                    tells(told + (t + 1) % 5 + " 1;", 2);
                }
            }
        }
    }

    /** "(.. or the end: the length)": blanks behind are part of it. */
    private static void placesAtTheEnd() {
        String[] cut = {"line", "line 11", "finders", "finders 2", "home", "home 1", "home 1 1", "plan", "plan 0", "plan 0 0"};
        for (String text : cut) {
            for (int blanks = 0; blanks < 4; blanks++) {
                String all = text + "   ".substring(0, blanks);
                faulty(all, 2, all.length());
            }
        }
        StringBuilder full = new StringBuilder("plan 0 0");
        while (full.length() < 160) {
            full.append(' ');
        }
        faulty(full.toString(), 2, 160);
        faulty(full.replace(8, 9, ";").toString(), 6, 160);
        faulty(full.replace(8, 9, " ").replace(159, 160, ";").toString(), 6, 160);
        faulty(full.replace(159, 160, ".").toString(), 1, 159);
        faulty(full.replace(159, 160, "1").toString(), 2, 160);
    }

    /** "-10 less the place of its FAULT: that which was told stays": all of it, by each FAULT. */
    private static void aFaultLeavesAll() {
        String was = Probe.told(Given.part());
        String[] texts = {".", "zz", "line 45;", "line 0;line 0;", "line0;line1;line2;line3;line4;line10;line", "line 0;finders 1;on 2 4;plan 1 0;"};
        for (int i = 0; i < texts.length; i++) {
            StepCalls x = Given.part();
            x.end(0);
            CHECK.due("4: '" + texts[i] + "' is refused", Check.text(x, texts[i]) <= -10 ? 1 : 0, 1);
            CHECK.due("5: fault() of '" + texts[i] + "'", x.fault(), i + 1);
            CHECK.same("4: what was told, behind '" + texts[i] + "'", Probe.told(x), was);
            CHECK.due("4: the IMAGE stays behind '" + texts[i] + "'", x.back(1), 3);
        }
    }
}
