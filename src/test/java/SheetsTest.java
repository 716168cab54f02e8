/** Promises 37 to 43: images, sheets, counts. */
public final class SheetsTest {
    private static final Check CHECK = new Check("SheetsTest");
    private static final int BAD = StepCalls.BAD, STATE = StepCalls.STATE, NONE = StepCalls.NONE;

    public static void main(String[] args) {
        wrongImages();
        images();
        twoImages();
        sheet();
        lay();
        lanes();
        read();
        readIsRefused();
        readAtTheEdges();
        torn();
        count();
        CHECK.finish();
    }

    private static void wrongImages() {
        StepCalls x = Check.of("line 11;");
        CHECK.due("37: keep(2)", x.keep(2), BAD);
        CHECK.due("37: keep(-1)", x.keep(-1), BAD);
        CHECK.due("38: back(2)", x.back(2), BAD);
        CHECK.due("38: back(-1)", x.back(-1), BAD);
        CHECK.due("38: back(0) of none", x.back(0), STATE);
        CHECK.due("37: keep(0)", x.keep(0), 0);
        CHECK.due("37: keep(0) again", x.keep(0), 1);
        CHECK.due("38: back(1) of none", x.back(1), STATE);
        CHECK.due("37: keep(1)", x.keep(1), 0);
    }

    private static void images() {
        StepCalls x = Check.of("line 11;line 22;line 33;line 44;finders 3;on 1 2;plan 0 22 1 99;");
        x.dial(0, 11);
        x.dead(1, 1, true);
        x.dial(0, 22);
        x.see(0, 6);
        x.keep(1);
        String was = told(x);
        x.dial(2, 44);
        x.dial(1, 10);
        x.hang(0);
        x.number(0, 12);
        x.finders(1);
        x.hunt(1, 3);
        x.ways(2, 0);
        x.ways(4, 4);
        x.dead(1, 1, false);
        x.dead(0, 0, true);
        x.plan(3, 99);
        x.cut(1);
        x.forget(0);
        x.see(5, 5);
        x.see(1, 1);
        Check.feed(x, "line");
        Check.fill(x, 1, 5);
        CHECK.due("38: back(1): calls", x.back(1), 1);
        CHECK.due("38: all is as it was: " + told(x) + ", due is " + was, told(x).equals(was) ? 1 : 0, 1);
        CHECK.due("38: SEEN as it was", x.hunts(0), 15);
        CHECK.due("38: THE TAPE is no part of it", x.count(2), 4);
        CHECK.due("38: SHEETS are no part of it", x.count(3), 1);
        CHECK.due("38: the IMAGE stays", x.count(1), 1);
        x.hang(0);
        CHECK.due("38: back(1) again", x.back(1), 1);
        CHECK.due("38: who was in the call", x.hang(1), 0);
    }

    private static String told(StepCalls x) {
        StringBuilder all = new StringBuilder();
        for (int i = 0; i < 6; i++) {
            all.append(x.rule(i)).append(' ');
        }
        for (int a = 0; a < 6; a++) {
            for (int i = 0; i < 4; i++) {
                all.append(x.one(a, i)).append(' ');
            }
        }
        for (int t = 0; t < 5; t++) {
            for (int i = 0; i < 6; i++) {
                all.append(x.group(t, i)).append(' ');
            }
            for (int w = 0; w < 4; w++) {
                all.append(x.uses(t, w)).append(' ');
            }
            all.append(x.hunts(t)).append(' ');
        }
        for (int i = 0; i < 8; i++) {
            all.append(x.act(i, 0)).append(' ').append(x.act(i, 1)).append(' ');
        }
        return all.append(x.count(0)).toString();
    }

    private static void twoImages() {
        StepCalls x = Check.of("line 11;line 22;");
        x.keep(0);
        x.dial(0, 22);
        x.keep(1);
        CHECK.due("38: back(0)", x.back(0), 0);
        CHECK.due("38: back(1)", x.back(1), 1);
        x.keep(0);
        x.hang(0);
        CHECK.due("38: back(0) of the later one", x.back(0), 1);
        CHECK.due("43: count(1)", x.count(1), 2);
    }

    private static void sheet() {
        StepCalls x = new StepCalls();
        CHECK.due("39: sheet(4, 0, 1)", x.sheet(4, 0, 1), BAD);
        CHECK.due("39: sheet(-1, 0, 1)", x.sheet(-1, 0, 1), BAD);
        CHECK.due("39: sheet(0, 3, 1)", x.sheet(0, 3, 1), BAD);
        CHECK.due("39: sheet(0, -1, 1)", x.sheet(0, -1, 1), BAD);
        CHECK.due("39: sheet(0, 0, 41)", x.sheet(0, 0, 41), BAD);
        CHECK.due("39: sheet(0, 0, -1)", x.sheet(0, 0, -1), -14);
        CHECK.due("39: sheet(0, 0, MIN)", x.sheet(0, 0, Integer.MIN_VALUE), -14);
        CHECK.due("39: sheet(4, 0, -1)", x.sheet(4, 0, -1), BAD);
        CHECK.due("39: sheet(0, 3, -1)", x.sheet(0, 3, -1), BAD);
        CHECK.due("39: nothing yet", x.count(3), NONE);
        CHECK.due("39: sheet(0, 2, 40)", x.sheet(0, 2, 40), 1);
        CHECK.due("39: 40 CELLS", x.count(3), 40);
        CHECK.due("39: sheet(0, 2, -5)", x.sheet(0, 2, -5), -14);
        CHECK.due("39: what is refused changes nothing", x.count(3), 40);
        CHECK.due("39: sheet(3, 0, 0)", x.sheet(3, 0, 0), 1);
        CHECK.due("39: sheet(0, 1, 0)", x.sheet(0, 1, 0), 1);
        CHECK.due("39: no CELLS", x.count(3), 0);
        StepCalls y = Check.of("line 0;line 1;");
        Check.fill(y, 0, 1, 44);
        y.sheet(0, 0, 2);
        CHECK.due("39: CELLS of a new row are 0: 0 dials 0", y.read(0, 0, 0, 1), 1);
        CHECK.due("39: CELLS of a new row are 0: 0 dials 0", y.uses(0, 0), 1);
        CHECK.due("39: CELLS of a new row are 0: 0 dials himself", y.rule(2), 0);
    }

    private static void lay() {
        StepCalls x = new StepCalls();
        CHECK.due("40: lay(4, 0, 0)", x.lay(4, 0, 0), BAD);
        CHECK.due("40: lay(-1, 0, 0)", x.lay(-1, 0, 0), BAD);
        CHECK.due("40: lay(0, 0, 0) of nothing", x.lay(0, 0, 0), -11);
        CHECK.due("40: lay(0, -1, 0) of nothing", x.lay(0, -1, 0), -11);
        x.sheet(0, 0, 3);
        CHECK.due("40: lay(0, 2, 0)", x.lay(0, 2, 0), 1);
        CHECK.due("40: lay(0, 3, 0)", x.lay(0, 3, 0), -12);
        CHECK.due("40: lay(0, -1, 0)", x.lay(0, -1, 0), -12);
        CHECK.due("40: lay(0, MAX, 0)", x.lay(0, Integer.MAX_VALUE, 0), -12);
        CHECK.due("40: lay(1, 0, 0) of nothing", x.lay(1, 0, 0), -11);
        x.sheet(2, 2, 0);
        CHECK.due("40: lay(2, 0, 0) of no CELLS", x.lay(2, 0, 0), -12);
        CHECK.due("40: torn() stays", x.torn(), 0);
    }

    /** The lowest bits stay, with a sign. */
    private static void lanes() {
        int[] kept = {256 + 11, 65536 + 11, 11};
        int[] gone = {128, 32768, Integer.MIN_VALUE};
        for (int lane = 0; lane < 3; lane++) {
            StepCalls x = Check.of("line 11;line 22;");
            Check.fill(x, lane, 1, kept[lane]);
            CHECK.due("40: lowest bits in lane " + lane, x.read(0, lane, 0, 1), 1);
            CHECK.due("40: lowest bits in lane " + lane, x.one(1, 1), 0);
            Check.fill(x, lane, 0, 99, gone[lane], 11);
            CHECK.due("40: a sign in lane " + lane, x.read(0, lane, 0, 2), -21);
        }
        StepCalls x = Check.of("line 11;line 22;");
        Check.fill(x, 1, 1, 256 + 11);
        CHECK.due("40: a SHORT keeps more than a BYTE", x.read(0, 1, 0, 1), -20);
        Check.fill(x, 2, 1, 65536 + 11);
        CHECK.due("40: an INT keeps more than a SHORT", x.read(0, 2, 0, 1), -20);
    }

    private static void read() {
        StepCalls x = Check.of("line 11;line 22;line 33;line 44;finders 2;home 1 2;");
        Check.fill(x, 2, 7, 0, 22, 2, 11, 2, 0, 2, 44, 3, 99, 1, 99);
        CHECK.due("41: read(0, 2, 1, 6): LOST ones came, too", x.read(0, 2, 1, 6), 6);
        CHECK.due("41: all hung up", x.rule(2), 0);
        CHECK.due("41: USES", x.rule(4), 4);
        CHECK.due("41: read(0, 2, 1, 1)", x.read(0, 2, 1, 1), 1);
        CHECK.due("41: who is in a call", x.rule(5), 3);
        CHECK.due("41: read(0, 2, 3, 2)", x.read(0, 2, 3, 2), 2);
        CHECK.due("41: wrong k", x.read(4, 2, 0, 0), BAD);
        CHECK.due("41: wrong k", x.read(-1, 2, 0, 0), BAD);
        CHECK.due("41: wrong lane", x.read(0, 3, 0, 0), BAD);
        CHECK.due("41: wrong lane", x.read(0, -1, 0, 0), BAD);
        CHECK.due("41: wrong n", x.read(0, 2, 0, 21), BAD);
        CHECK.due("41: wrong n", x.read(0, 2, 0, -1), BAD);
        CHECK.due("41: wrong n of nothing", x.read(1, 2, 0, 21), BAD);
        CHECK.due("41: n 0 of nothing", x.read(1, 2, 0, 0), 0);
        CHECK.due("41: n 0 of another lane, from nowhere", x.read(0, 1, -7, 0), 0);
        CHECK.due("42: n 0 has no FAULT", x.torn(), 0);
        StepCalls y = Check.of("line 11;");
        y.sheet(3, 0, 40);
        CHECK.due("41: twenty of a sheet", y.read(3, 0, 0, 20), 20);
        CHECK.due("41: twenty of a sheet are dialled", y.rule(4), 20);
    }

    private static void readIsRefused() {
        StepCalls x = Check.of("line 11;line 22;line 33;line 44;home 3 3;");
        int[][] refused = {{4, 11}, {-1, 11}, {2, 45}, {2, 5}, {2, 98}, {2, -1}, {2, 100}, {4, 99}, {2, 99}, {0, 33}, {1, 33}};
        for (int[] pair : refused) {
            Check.fill(x, 0, 0, 22, pair[0], pair[1], 9, 9);
            CHECK.due("41: " + pair[0] + " dials " + pair[1], x.read(0, 0, 0, 2), -21);
            CHECK.due("41: none came", x.rule(2) + x.rule(4), 0);
            CHECK.due("41: the first met", x.read(0, 0, 0, 20), -21);
            CHECK.due("41: by itself", x.read(0, 0, 4, 1), -20);
            CHECK.due("42: torn() stays", x.torn(), 0);
        }
        x.read(1, 0, 0, 1);
        CHECK.due("42: torn()", x.torn(), 1);
        CHECK.due("41: refused", x.read(0, 0, 4, 1), -20);
        CHECK.due("42: one that is refused leaves it", x.torn(), 1);
        CHECK.due("41: wrong n", x.read(0, 0, 0, 99), BAD);
        CHECK.due("42: one that is BAD leaves it", x.torn(), 1);
    }

    private static void readAtTheEdges() {
        StepCalls x = Check.of("line 11;line 22;line 33;line 44;");
        Check.fill(x, 1, 0, 22, 2, 33, 3);
        CHECK.due("41: those that were whole came", x.read(0, 1, 0, 3), 2);
        CHECK.due("42: INDEX", x.torn(), 2);
        CHECK.due("41: the first is in a call, the second was LOST", 10 * x.rule(2) + x.rule(4), 12);
        x.hang(0);
        CHECK.due("41: from an odd CELL, refused", x.read(0, 1, 1, 2), -20);
        CHECK.due("41: f 4, not whole", x.read(0, 1, 4, 1), 0);
        int[] outside = {5, 6, -1, -2, Integer.MAX_VALUE, Integer.MAX_VALUE - 1, Integer.MIN_VALUE};
        for (int f : outside) {
            x.read(0, 1, 0, 0);
            CHECK.due("41: f " + f, x.read(0, 1, f, 20), 0);
            CHECK.due("42: f " + f, x.torn(), 2);
        }
        x.read(0, 1, 0, 0);
        CHECK.due("41: f " + 2, x.read(0, 1, 2, 1), 1);
        CHECK.due("42: none", x.torn(), 0);
    }

    private static void torn() {
        StepCalls x = Check.of("line 11;");
        CHECK.due("41: nothing", x.read(0, 0, 0, 1), 0);
        CHECK.due("42: NULL", x.torn(), 1);
        x.sheet(0, 2, 0);
        CHECK.due("41: no CELLS", x.read(0, 2, 0, 1), 0);
        CHECK.due("42: INDEX", x.torn(), 2);
        for (int lane = 0; lane < 3; lane++) {
            x.sheet(1, lane, 2);
            for (int as = 0; as < 3; as++) {
                CHECK.due("41: lane " + lane + " as " + as, x.read(1, as, 0, 1), lane == as ? 1 : 0);
                CHECK.due("42: lane " + lane + " as " + as, x.torn(), lane == as ? 0 : 3);
            }
        }
        CHECK.due("41: CAST ahead of INDEX", x.read(1, 0, 99, 1), 0);
        CHECK.due("42: CAST ahead of INDEX", x.torn(), 3);
    }

    private static void count() {
        StepCalls x = Check.of("line 11;home 1 4;home 2 0;on 3 3;");
        x.dead(1, 0, true);
        x.dead(1, 3, true);
        x.dead(0, 0, true);
        x.see(0, 0);
        x.keep(1);
        x.feed(1);
        x.feed(2);
        x.sheet(0, 0, 7);
        x.sheet(1, 0, 8);
        int[] due = {1, 1, 2, 7, 9, 3};
        for (int i = 0; i < due.length; i++) {
            CHECK.due("43: count(" + i + ")", x.count(i), due[i]);
        }
        CHECK.due("43: count(6)", x.count(6), BAD);
        CHECK.due("43: count(-1)", x.count(-1), BAD);
        x.ways(1, 1);
        CHECK.due("43: WAYS that go", x.count(4), 6);
        CHECK.due("43: DEAD ones that go", x.count(5), 2);
    }
}
