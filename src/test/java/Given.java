/** Objects that several tests begin with. Each call makes a new one, the same each time. */
final class Given {
    /** SUBSCRIBERS of part(), of full(). */
    static final int ONES = 6;
    /** ACTS of THE PLAN of part(). */
    static final int ACTS = 6;
    /** Bytes on THE TAPE of part(). */
    static final int BYTES = 7;
    /** SEEN of part(). */
    static final int SEEN = 3;

    private Given() {
    }

    /**
     * Some of all: 0 called 1 by WAY 0 of GROUP 1, 2 called 3 by WAY 1 of GROUP 2, 4 and 5 are in no call;
     * FINDERS 3; WAYS 0, 3, 2, 4, 1; IMAGE 1 alone (with a call more); SHEETS of 6 BYTES, of 4 SHORTS, of no INTS, of nothing.
     */
    static StepCalls part() {
        StepCalls x = Check.of("line 11;line 12;line 21;line 22;line 33;line 44;finders 3;home 0 0;on 1 3;back 2 2;spread 3 4;"
            + "plan 0 99 4 44 5 21 2 12 4 11 0 33;");
        x.dial(0, 12);
        x.dial(2, 13);
        x.dial(2, 22);
        x.dead(1, 2, true);
        x.dead(3, 1, true);
        x.dial(4, 44);
        x.see(0, 0);
        x.keep(1);
        x.hang(5);
        x.see(3, 6);
        x.see(5, 4);
        sheets(x);
        x.read(3, 0, 0, 1);
        Check.text(x, "x");
        Check.feed(x, "line 0;");
        return x;
    }

    private static void sheets(StepCalls x) {
        Check.fill(x, 0, 4, 44, 5, 99, 4, 33);
        x.sheet(1, 1, 4);
        x.lay(1, 0, 4);
        x.lay(1, 1, 33);
        x.lay(1, 3, 44);
        x.sheet(2, 2, 0);
    }

    /** As much of all as there may be: ONES, calls, FINDERS that are held, WAYS, ACTS, SEEN, IMAGES, CELLS, bytes. */
    static StepCalls full() {
        StepCalls x = Check.of("line0;line4;line11;line22;line33;line44;");
        for (int t = 0; t < 5; t++) {
            x.ways(t, 4);
            x.hunt(t, t % 4);
        }
        int[][] plan = {{0, 99}, {0, 4}, {2, 99}, {2, 22}, {4, 99}, {4, 44}, {1, 0}, {3, 11}};
        for (int[] act : plan) {
            x.plan(act[0], act[1]);
        }
        x.finders(6);
        x.dial(0, 4);
        x.dial(2, 22);
        x.dial(4, 44);
        x.finders(3);
        for (int i = 0; i < 6; i++) {
            x.see(i, 0);
        }
        x.keep(0);
        x.keep(1);
        for (int k = 0; k < 4; k++) {
            x.sheet(k, k % 3, 40);
        }
        for (int i = 0; i < 160; i++) {
            x.feed(' ');
        }
        return x;
    }
}
