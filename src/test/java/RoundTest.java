/**
 * "A WAY is taken of those that no call holds by HUNT: home the first one; on the first one from behind the LATEST on,
 * round (from the first WAY on, if there is none); back the last one; spread the one of fewest USES, of several the
 * first as on takes them."
 */
public final class RoundTest {
    private static final Check CHECK = new Check("RoundTest");
    private static final int NONE = StepCalls.NONE;
    private static final int THINGS = 7, STEPS = 5;

    public static void main(String[] args) {
        onRound();
        onRoundOverThoseThatAreHeld();
        onWithoutLatest();
        spreadRound();
        spreadByUses();
        homeAndBackHaveNoLatest();
        deadOnesAreTaken();
        noneIsFree();
        latestThatGoes();
        byThePlanRound();
        allStates();
        CHECK.finish();
    }

    private static StepCalls of(String hunt, int ways) {
        return Check.of("line 0;line 11;line 12;line 13;line 14;finders 6;" + hunt + " 1 " + ways + ";");
    }

    /** ONE 0 dials nobody, which takes a WAY and lets it go: which one it was. */
    private static int touch(StepCalls x) {
        CHECK.due("18: nobody has 10", x.dial(0, 10), 4);
        return x.group(1, 4);
    }

    private static void onRound() {
        for (int ways = 1; ways <= 4; ways++) {
            StepCalls x = of("on", ways);
            for (int i = 0; i < 3 * ways; i++) {
                CHECK.due("8: on, " + ways + " WAYS, the WAY that would be taken", x.group(1, 5), i % ways);
                CHECK.due("18: on, " + ways + " WAYS, the WAY " + i, touch(x), i % ways);
                CHECK.due("9: on, its USES", x.uses(1, i % ways), i / ways + 1);
            }
        }
    }

    private static void onRoundOverThoseThatAreHeld() {
        StepCalls x = of("on", 4);
        touch(x);
        x.dial(1, 12);
        CHECK.due("7: the second is held", x.one(1, 3), 11);
        touch(x);
        x.dial(3, 14);
        CHECK.due("7: the last is held", x.one(3, 3), 13);
        CHECK.due("8: both bits", x.group(1, 3), 10);
        int[] due = {0, 2, 0, 2, 0};
        for (int w : due) {
            CHECK.due("18: on goes over the two that are held, round", touch(x), w);
        }
        x.hang(2);
        CHECK.due("18: on, the third being the LATEST no more", touch(x), 1);
        x.hang(4);
        CHECK.due("18: on, the third", touch(x), 2);
        CHECK.due("18: on, the last", touch(x), 3);
        CHECK.due("18: on, round", touch(x), 0);
    }

    private static void onWithoutLatest() {
        for (int ways = 1; ways <= 4; ways++) {
            StepCalls x = of("on", ways);
            CHECK.due("8: there is no LATEST at first", x.group(1, 4), NONE);
            CHECK.due("8: from the first on", x.group(1, 5), 0);
            x.hunt(1, 0);
            x.dial(1, 12);
            x.ways(1, 1);
            x.hunt(1, 1);
            CHECK.due("8: the only one is held", x.group(1, 5), NONE);
        }
    }

    private static void spreadRound() {
        StepCalls x = of("spread", 3);
        for (int i = 0; i < 9; i++) {
            CHECK.due("18: spread, all alike, round", touch(x), i % 3);
        }
        // the LATEST is 1, USES 3, 4, 3: 2 comes ahead of 0
        x.hunt(1, 0);
        x.dial(1, 12);
        x.hunt(1, 0);
        touch(x);
        x.hang(1);
        CHECK.due("9: USES", 100 * x.uses(1, 0) + 10 * x.uses(1, 1) + x.uses(1, 2), 443);
        x.hunt(1, 2);
        touch(x);
        CHECK.due("8: LATEST 2, all alike", x.group(1, 4), 2);
        x.hunt(1, 3);
        CHECK.due("8: all alike, from behind the LATEST on, round", x.group(1, 5), 0);
        x.hunt(1, 1);
        touch(x);
        x.hunt(1, 3);
        CHECK.due("8: USES 5, 4, 4, the LATEST 0", x.group(1, 5), 1);
        CHECK.due("18: spread takes it", touch(x), 1);
        CHECK.due("18: spread takes the other", touch(x), 2);
        x.hunt(1, 2);
        touch(x);
        x.hunt(1, 3);
        CHECK.due("8: USES 5, 5, 6, the LATEST 2: round", x.group(1, 5), 0);
        x.hunt(1, 0);
        x.dial(1, 12);
        x.hunt(1, 3);
        x.hang(2);
        CHECK.due("8: USES 6, 5, 6: the fewest alone", x.group(1, 5), 1);
    }

    private static void spreadByUses() {
        StepCalls x = of("home", 4);
        for (int i = 0; i < 3; i++) {
            touch(x);
        }
        x.hunt(1, 2);
        touch(x);
        x.hunt(1, 3);
        // USES 3, 0, 0, 1, the LATEST 3
        CHECK.due("8: of several the first from behind the LATEST on", x.group(1, 5), 1);
        x.dial(1, 12);
        CHECK.due("8: it is held: the other of no USES", x.group(1, 5), 2);
        x.dial(3, 14);
        CHECK.due("8: both are held: USES 3 and 1", x.group(1, 5), 3);
        x.ways(1, 3);
        CHECK.due("8: the last has gone: USES 3", x.group(1, 5), 0);
        x.ways(1, 4);
        CHECK.due("8: it comes anew, without USES", x.group(1, 5), 3);
    }

    private static void homeAndBackHaveNoLatest() {
        StepCalls x = of("home", 4);
        StepCalls y = of("back", 4);
        for (int i = 0; i < 3; i++) {
            CHECK.due("18: home comes home", touch(x), 0);
            CHECK.due("18: back comes to the last", touch(y), 3);
        }
        x.dial(1, 12);
        y.dial(1, 12);
        CHECK.due("18: home, the first is held", touch(x), 1);
        CHECK.due("18: back, the last is held", touch(y), 2);
        x.dial(3, 14);
        y.dial(3, 14);
        CHECK.due("18: home, two are held", touch(x), 2);
        CHECK.due("18: back, two are held", touch(y), 1);
        x.hang(2);
        y.hang(2);
        CHECK.due("18: home, the first is free again", touch(x), 0);
        CHECK.due("18: back, the last is free again", touch(y), 3);
    }

    private static void deadOnesAreTaken() {
        String[] hunts = {"home", "on", "back", "spread"};
        int[] due = {0, 0, 2, 0};
        for (int kind = 0; kind < 4; kind++) {
            StepCalls x = of(hunts[kind], 3);
            for (int w = 0; w < 3; w++) {
                x.dead(1, w, true);
            }
            CHECK.due("8: " + hunts[kind] + " hunts DEAD ones, too", x.group(1, 5), due[kind]);
            CHECK.due("18: " + hunts[kind] + " takes one", x.dial(1, 12), 3);
            CHECK.due("9: it has a USE", x.uses(1, due[kind]), 1);
            CHECK.due("8: it is the LATEST", x.group(1, 4), due[kind]);
            CHECK.due("8: it is free again", x.group(1, 3), 0);
        }
    }

    private static void noneIsFree() {
        String[] hunts = {"home", "on", "back", "spread"};
        for (String hunt : hunts) {
            CHECK.due("8: " + hunt + " of no WAYS", of(hunt, 0).group(1, 5), NONE);
            CHECK.due("18: " + hunt + " of no WAYS", of(hunt, 0).dial(1, 12), 2);
            StepCalls x = of(hunt, 2);
            x.dial(1, 12);
            x.dial(3, 14);
            CHECK.due("8: " + hunt + ", both are held", x.group(1, 5), NONE);
            CHECK.due("8: " + hunt + ", both bits", x.group(1, 3), 3);
            int latest = x.group(1, 4);
            CHECK.due("18: " + hunt + ", both are held", x.dial(0, 11), 2);
            CHECK.due("18: no WAY is taken then", x.rule(4), 2);
            CHECK.due("18: no LATEST comes of it", x.group(1, 4), latest);
        }
    }

    /** "there is no LATEST then, if it goes". */
    private static void latestThatGoes() {
        for (int latest = 0; latest < 4; latest++) {
            for (int n = 0; n <= 4; n++) {
                StepCalls x = of("on", 4);
                for (int i = 0; i <= latest; i++) {
                    touch(x);
                }
                x.ways(1, n);
                CHECK.due("14: the LATEST " + latest + " of " + n + " WAYS", x.group(1, 4), latest < n ? latest : NONE);
                int due = n == 0 ? NONE : latest >= n || latest == n - 1 ? 0 : latest + 1;
                CHECK.due("14: on hunts on from " + latest + " of " + n + " WAYS", x.group(1, 5), due);
                x.ways(1, 4);
                CHECK.due("14: the LATEST that has gone comes back no more", x.group(1, 4), latest < n ? latest : NONE);
            }
        }
    }

    private static void byThePlanRound() {
        StepCalls x = of("on", 3);
        x.dead(1, 1, true);
        int[] due = {4, 3, 4, 4, 3, 4, 4, 3};
        for (int i = 0; i < 8; i++) {
            x.plan(0, 10);
        }
        for (int i = 0; i < 8; i++) {
            CHECK.due("21: by the plan on goes round, " + i, x.fate(i), due[i]);
        }
        touch(x);
        for (int i = 0; i < 7; i++) {
            CHECK.due("21: from where it is now, " + i, x.fate(i), due[i + 1]);
        }
    }

    /** Each sequence of things done to a GROUP, and behind each of them each HUNT. */
    private static void allStates() {
        int sequences = 1;
        for (int i = 0; i < STEPS; i++) {
            sequences *= THINGS;
        }
        for (int sequence = 0; sequence < sequences; sequence++) {
            int t = sequence % 5;
            int ways = 1 + sequence / 5 % 4;
            StepCalls x = new StepCalls();
            Check.text(x, "line " + t + "0;line " + t + "1;line " + t + "2;line " + t + "3;line " + (t + 1) % 5 + "4;finders 6;home " + t + " " + ways + ";");
            int left = sequence;
            for (int i = 0; i < STEPS; i++) {
                doThing(x, t, left % THINGS);
                left /= THINGS;
            }
        }
    }

    private static void doThing(StepCalls x, int t, int thing) {
        compareHunts(x, t);
        int due = expected(x, t, x.group(t, 0));
        int had = due == NONE ? 0 : x.uses(t, due);
        boolean hangs = thing >= 4 && thing < 6 && x.one(2 * thing - 8, 2) != 0;
        if (thing < 4) {
            x.hunt(t, thing);
            due = expected(x, t, thing);
            had = due == NONE ? 0 : x.uses(t, due);
            CHECK.due("18: nobody", x.dial(4, 10 * t + 4), due == NONE ? 2 : 4);
        } else if (hangs) {
            x.hang(2 * thing - 8);
            return;
        } else if (thing < 6) {
            x.dial(2 * thing - 8, 10 * t + 2 * thing - 7);
        } else {
            x.ways(t, x.group(t, 1) == 4 ? 2 : x.group(t, 1) + 1);
            return;
        }
        if (due != NONE) {
            CHECK.due("18: the LATEST", x.group(t, 4), due);
            CHECK.due("18: a USE more", x.uses(t, due), had + 1);
        }
    }

    private static void compareHunts(StepCalls x, int t) {
        int was = x.group(t, 0);
        for (int kind = 0; kind < 4; kind++) {
            x.hunt(t, kind);
            CHECK.due("8: HUNT " + kind + " of " + x.group(t, 1) + " WAYS", x.group(t, 5), expected(x, t, kind));
        }
        x.hunt(t, was);
    }

    private static int expected(StepCalls x, int t, int kind) {
        int size = x.group(t, 1);
        int held = x.group(t, 3);
        int latest = x.group(t, 4);
        int found = NONE;
        for (int i = 0; i < size; i++) {
            int w = kind == 0 ? i : kind == 2 ? size - i - 1 : latest == NONE ? i : (latest + 1 + i) % size;
            boolean better = found == NONE || kind == 3 && x.uses(t, w) < x.uses(t, found);
            if ((held & 1 << w) == 0 && better) {
                found = w;
            }
        }
        return found;
    }
}
