/** "SHEETS .. are rows of BYTES, SHORTS, INTS, all with a sign, with 0 to 40 CELLS, or nothing", "CELL i becomes v (its lowest bits)". */
public final class CellsTest {
    private static final Check CHECK = new Check("CellsTest");
    private static final int[] BASES = {-129, -128, -127, -100, -1, 0, 1, 2, 3, 4, 5, 6, 9, 10, 11, 14, 15, 24, 40, 44, 45, 50, 98, 99, 100, 126, 127};
    private static final int[] STEPS = {
        0, 256, -256, 512, 128, -128, 32768, -32768, 65536, -65536, 65536 + 256, 1 << 24, 1 << 30, Integer.MIN_VALUE, 0x7fff0000, 0x7fffff00, 0x12345600
    };

    public static void main(String[] args) {
        lowestBitsOfWhoDials();
        lowestBitsOfWhatIsDialled();
        lowestBitsOfAHangingUp();
        eachCell();
        aNewRow();
        fourSheets();
        wholeOnes();
        aheadOfWhatIsTorn();
        noneAtAll();
        mostOfAll();
        tornStays();
        CHECK.finish();
    }

    /** What a CELL of 8, 16, 32 bits with a sign keeps of v. */
    private static long kept(int lane, int v) {
        long all = 1L << (8 << lane);
        long rest = ((long) v % all + all) % all;
        return rest >= all / 2 ? rest - all : rest;
    }

    private static StepCalls of() {
        return Check.of("line 0;line 4;line 11;line 14;line 22;line 44;home 0 4;finders 6;");
    }

    private static void lowestBitsOfWhoDials() {
        for (int lane = 0; lane < 3; lane++) {
            for (int step : STEPS) {
                StepCalls x = of();
                x.sheet(0, lane, 2);
                x.lay(0, 1, 10);
                for (int base : BASES) {
                    int v = base + step;
                    long a = kept(lane, v);
                    x.lay(0, 0, v);
                    int due = a >= 0 && a <= 5 ? 1 : -20;
                    int had = x.uses(1, 0);
                    CHECK.due("40: ONE " + v + " in lane " + lane, x.read(0, lane, 0, 1), due);
                    CHECK.due("41: the WAY that he takes", x.uses(1, 0), due == 1 ? had + 1 : had);
                }
            }
        }
    }

    private static void lowestBitsOfWhatIsDialled() {
        for (int lane = 0; lane < 3; lane++) {
            for (int step : STEPS) {
                StepCalls x = of();
                x.sheet(0, lane, 2);
                for (int base : BASES) {
                    int v = base + step;
                    long n = kept(lane, v);
                    x.lay(0, 1, v);
                    boolean fine = n >= 0 && n <= 44 && n % 10 <= 4;
                    int had = fine ? x.uses((int) n / 10, 0) : 0;
                    CHECK.due("40: dialled " + v + " in lane " + lane, x.read(0, lane, 0, 1), fine ? 1 : -20);
                    if (fine) {
                        CHECK.due("41: the WAY of its GROUP", x.uses((int) n / 10, 0), had + 1);
                        CHECK.due("41: who is called", x.one(0, 1) >= 0 ? x.one(x.one(0, 1), 0) : n, n);
                        x.hang(0);
                    }
                }
            }
        }
    }

    private static void lowestBitsOfAHangingUp() {
        for (int lane = 0; lane < 3; lane++) {
            for (int step : STEPS) {
                StepCalls x = of();
                x.sheet(0, lane, 2);
                x.dial(0, 11);
                x.lay(0, 1, 99 + step);
                boolean hangs = kept(lane, 99 + step) == 99;
                CHECK.due("40: 99 and " + step + " in lane " + lane, x.read(0, lane, 0, 1), hangs ? 1 : -20);
                CHECK.due("41: calls then", x.rule(2), hangs ? 0 : 1);
            }
        }
    }

    /** CELL i and no other becomes v. */
    private static void eachCell() {
        for (int lane = 0; lane < 3; lane++) {
            for (int i = 1; i < 40; i += 2) {
                StepCalls x = of();
                x.sheet(3, lane, 40);
                CHECK.due("40: lay(3, " + i + ", 44)", x.lay(3, i, 44), 1);
                CHECK.due("41: those ahead dial 0", x.read(3, lane, 0, i / 2), i / 2);
                CHECK.due("9: USES of GROUP 0", x.uses(0, 0), i / 2);
                CHECK.due("41: that one dials 44, so that he is in a call behind it", x.read(3, lane, 0, 20), i == 39 ? 20 : -21 - i / 2);
                CHECK.due("9: USES of GROUP 4", x.uses(4, 0), i == 39 ? 1 : 0);
            }
        }
    }

    /** "a new row of CELLS 0": none of what was laid stays. */
    private static void aNewRow() {
        int[] sizes = {2, 3, 40};
        for (int lane = 0; lane < 3; lane++) {
            for (int n : sizes) {
                StepCalls x = of();
                x.sheet(0, 2, 40);
                for (int i = 0; i < 40; i++) {
                    x.lay(0, i, 77);
                }
                CHECK.due("39: a row in place of another", x.sheet(0, lane, n), 1);
                CHECK.due("43: its CELLS", x.count(3), n);
                CHECK.due("41: all its CELLS are 0", x.read(0, lane, 0, n / 2), n / 2);
                CHECK.due("9: ONE 0 dials 0", x.rule(4), n / 2);
                CHECK.due("40: it ends where it ends", x.lay(0, n, 0), -12);
                CHECK.due("39: a longer one behind it", x.sheet(0, lane, 40), 1);
                CHECK.due("41: all of its CELLS are 0, too", x.read(0, lane, 0, 20), 20);
            }
        }
    }

    private static void fourSheets() {
        StepCalls x = of();
        for (int k = 0; k < 4; k++) {
            CHECK.due("40: nothing at first, " + k, x.lay(k, 0, 0), -11);
        }
        for (int k = 0; k < 4; k++) {
            x.sheet(k, k % 3, 2 + k);
            for (int other = k + 1; other < 4; other++) {
                CHECK.due("40: nothing as yet, " + other, x.lay(other, 0, 0), -11);
            }
        }
        for (int k = 0; k < 4; k++) {
            x.lay(k, 1, 10 * k + 10);
        }
        for (int k = 0; k < 4; k++) {
            CHECK.due("41: SHEET " + k, x.read(k, k % 3, 0, 1), 1);
            CHECK.due("41: what SHEET " + k + " has", x.group(k + 1, 4), 0);
            CHECK.due("40: as long as it is, " + k, x.lay(k, 1 + k, 0), 1);
            CHECK.due("40: no longer than it is, " + k, x.lay(k, 2 + k, 0), -12);
        }
        CHECK.due("43: CELLS of SHEET 0", x.count(3), 2);
    }

    /** "two CELLS each from CELL f on": one that is whole, one that is not, for each f, each n of a small row. */
    private static void wholeOnes() {
        for (int size = 0; size <= 5; size++) {
            for (int f = -3; f <= 6; f++) {
                for (int n = 0; n <= 4; n++) {
                    StepCalls x = of();
                    x.sheet(0, 1, size);
                    int whole = 0;
                    while (whole < n && f >= 0 && f + 2 * whole + 1 < size) {
                        whole++;
                    }
                    String call = "read(0, 1, " + f + ", " + n + ") of " + size;
                    CHECK.due("41: " + call, x.read(0, 1, f, n), whole);
                    CHECK.due("42: " + call, x.torn(), whole < n ? 2 : 0);
                    CHECK.due("41: those that were whole came, " + call, x.rule(4), whole);
                }
            }
        }
        int[] far = {Integer.MAX_VALUE, Integer.MAX_VALUE - 1, Integer.MAX_VALUE - 39, Integer.MIN_VALUE, Integer.MIN_VALUE + 1, 1 << 30, -40};
        for (int f : far) {
            StepCalls x = of();
            x.sheet(0, 1, 40);
            CHECK.due("41: read(0, 1, " + f + ", 20)", x.read(0, 1, f, 20), 0);
            CHECK.due("42: read(0, 1, " + f + ", 20)", x.torn(), 2);
            CHECK.due("41: none came", x.rule(4), 0);
        }
    }

    /** "What the machine refuses: those that were whole ahead came": they are dialled, and stay so. */
    private static void aheadOfWhatIsTorn() {
        StepCalls x = of();
        Check.fill(x, 0, 0, 11, 1, 22, 0, 99, 3, 44, 5);
        CHECK.due("41: read(0, 0, 0, 5)", x.read(0, 0, 0, 5), 4);
        CHECK.due("42: INDEX", x.torn(), 2);
        CHECK.due("41: who is in a call", x.rule(5), 2 + 8 + 16 + 32);
        CHECK.due("41: who called", x.one(1, 2), 1);
        CHECK.due("41: with whom", x.one(3, 1), 5);
        CHECK.due("41: all USES", x.rule(4), 3);
        x.sheet(1, 0, 3);
        x.lay(1, 1, 44);
        CHECK.due("41: LOST is not refused", x.read(1, 0, 0, 2), 1);
        CHECK.due("41: all USES", x.rule(4), 3);
        CHECK.due("21: he was LOST for want of a WAY", x.dial(0, 44), 2);
    }

    /** "(.. of n 0: 0, no FAULT, whatever the SHEET is)". */
    private static void noneAtAll() {
        StepCalls x = of();
        x.sheet(1, 1, 0);
        x.sheet(2, 2, 40);
        for (int k = 0; k < 4; k++) {
            for (int lane = 0; lane < 3; lane++) {
                for (int f = -1; f <= 41; f += 21) {
                    x.read(3, 0, 0, 1);
                    CHECK.due("42: NULL", x.torn(), 1);
                    CHECK.due("41: read(" + k + ", " + lane + ", " + f + ", 0)", x.read(k, lane, f, 0), 0);
                    CHECK.due("42: none by n 0", x.torn(), 0);
                }
            }
        }
        CHECK.due("41: nothing came", x.rule(4), 0);
    }

    private static void mostOfAll() {
        for (int lane = 0; lane < 3; lane++) {
            StepCalls x = of();
            x.sheet(0, lane, 40);
            for (int i = 0; i < 20; i++) {
                x.lay(0, 2 * i, i % 2);
                x.lay(0, 2 * i + 1, i % 2 == 0 ? 11 : 99);
            }
            CHECK.due("41: ONE 1 is in no call as he hangs up", x.read(0, lane, 0, 20), -21);
            for (int i = 0; i < 20; i++) {
                x.lay(0, 2 * i, 0);
            }
            CHECK.due("41: twenty come", x.read(0, lane, 0, 20), 20);
            CHECK.due("42: no FAULT", x.torn(), 0);
            CHECK.due("41: ten dialled, ten hung up", 100 * x.rule(2) + x.uses(1, 0), 10);
            CHECK.due("41: the last ones by themselves", x.read(0, lane, 36, 2), 2);
            CHECK.due("41: one more", x.read(0, lane, 36, 3), 2);
            CHECK.due("42: INDEX", x.torn(), 2);
            CHECK.due("41: twenty from CELL 1 on: 11 is no ONE", x.read(0, lane, 1, 20), -20);
        }
    }

    /** "The FAULT of the latest read() that answered 0 or more; 0 (one that is refused leaves it)". */
    private static void tornStays() {
        for (int fault = 0; fault <= 3; fault++) {
            StepCalls x = of();
            x.sheet(0, 0, 1);
            x.sheet(1, 0, 2);
            x.sheet(2, 2, 2);
            x.lay(2, 0, 6);
            CHECK.due("42: at first", x.torn(), 0);
            CHECK.due("41: by " + fault, fault == 0 ? x.read(1, 0, 0, 1) : x.read(fault == 1 ? 3 : fault == 2 ? 0 : 1, fault == 3 ? 1 : 0, 0, 1), fault == 0 ? 1 : 0);
            CHECK.due("42: by " + fault, x.torn(), fault);
            int[] refused = {x.read(2, 2, 0, 1), x.read(4, 0, 0, 0), x.read(0, 3, 0, 0), x.read(0, 0, 0, 21), x.read(3, 0, 0, -1)};
            for (int i = 0; i < refused.length; i++) {
                CHECK.due("41: refused " + i, refused[i], i == 0 ? -20 : -1);
            }
            CHECK.due("42: one that is refused leaves " + fault, x.torn(), fault);
            x.lay(3, 0, 0);
            x.lay(0, 1, 0);
            x.sheet(0, 0, -1);
            CHECK.due("42: it is of read() alone, " + fault, x.torn(), fault);
            x.read(1, 0, 0, 1);
            CHECK.due("42: the latest, without a FAULT", x.torn(), 0);
        }
    }
}
