import java.util.function.Supplier;
import java.util.function.ToLongFunction;

/**
 * "what is refused changes nothing": each refusal of each call, and behind it all is asked that can be asked;
 * so it is of the calls that only tell ("nothing is changed", BY THE PLAN).
 */
public final class RefusedTest {
    private static final Check CHECK = new Check("RefusedTest");
    private static final int BAD = StepCalls.BAD, STATE = StepCalls.STATE, FULL = StepCalls.FULL, NONE = StepCalls.NONE;

    private final String of;
    private final Supplier<StepCalls> given;
    private final String was;

    private RefusedTest(String of, Supplier<StepCalls> given) {
        this.of = of;
        this.given = given;
        was = Probe.all(given.get());
    }

    public static void main(String[] args) {
        RefusedTest part = new RefusedTest("part", Given::part);
        part.theText();
        part.changes();
        part.calls();
        part.whatIsBest();
        part.whichWay();
        part.imagesAndSheets();
        part.sheetsThatAreRefused();
        part.tellsAlone();
        RefusedTest full = new RefusedTest("full", Given::full);
        full.ofFull();
        full.tellsAlone();
        RefusedTest nobody = new RefusedTest("new", StepCalls::new);
        nobody.ofNobody();
        nobody.tellsAlone();
        CHECK.finish();
    }

    private void refused(String call, long due, ToLongFunction<StepCalls> answer) {
        StepCalls x = given.get();
        CHECK.due(call + " of " + of, answer.applyAsLong(x), due);
        CHECK.same("what " + call + " leaves of " + of, Probe.all(x), was);
    }

    private void tells(String call, ToLongFunction<StepCalls> answer) {
        StepCalls x = given.get();
        long first = answer.applyAsLong(x);
        CHECK.due(call + " of " + of + " once more", answer.applyAsLong(x), first);
        CHECK.same("what " + call + " leaves of " + of, Probe.all(x), was);
    }

    private void theText() {
        refused("2: feed(-1)", BAD, x -> x.feed(-1));
        refused("2: feed(128)", BAD, x -> x.feed(128));
        refused("3: end(-1)", BAD, x -> x.end(-1));
        refused("3: end(8)", BAD, x -> x.end(Given.BYTES + 1));
        refused("6: rule(6)", BAD, x -> x.rule(6));
        refused("7: one(6, 0)", BAD, x -> x.one(6, 0));
        refused("8: group(5, 0)", BAD, x -> x.group(5, 0));
        refused("9: uses(0, 0) of no WAYS", BAD, x -> x.uses(0, 0));
        refused("10: act(6, 0)", BAD, x -> x.act(6, 0));
    }

    private void changes() {
        refused("11: number(-1, 10)", BAD, x -> x.number(-1, 10));
        refused("11: number(6, 10)", BAD, x -> x.number(6, 10));
        refused("11: number(4, 45)", BAD, x -> x.number(4, 45));
        refused("11: number(4, 44), of another", BAD, x -> x.number(4, 44));
        refused("11: number(4, 11), of another in a call", BAD, x -> x.number(4, 11));
        refused("11: number(0, 10) in a call", STATE, x -> x.number(0, 10));
        refused("11: number(3, 10) in a call", STATE, x -> x.number(3, 10));
        refused("12: finders(0)", BAD, x -> x.finders(0));
        refused("12: finders(7)", BAD, x -> x.finders(7));
        refused("12: finders(1)", STATE, x -> x.finders(1));
        refused("13: hunt(5, 1)", BAD, x -> x.hunt(5, 1));
        refused("13: hunt(1, 4)", BAD, x -> x.hunt(1, 4));
        refused("13: hunt(1, -1)", BAD, x -> x.hunt(1, -1));
        refused("14: ways(5, 1)", BAD, x -> x.ways(5, 1));
        refused("14: ways(3, 5)", BAD, x -> x.ways(3, 5));
        refused("14: ways(3, -1)", BAD, x -> x.ways(3, -1));
        refused("14: ways(1, 0), WAY 0 is held", STATE, x -> x.ways(1, 0));
        refused("14: ways(2, 1), WAY 1 is held", STATE, x -> x.ways(2, 1));
        refused("14: ways(2, 0), WAY 1 is held", STATE, x -> x.ways(2, 0));
        refused("15: dead(1, 3, true)", BAD, x -> x.dead(1, 3, true));
        refused("15: dead(1, -1, true)", BAD, x -> x.dead(1, -1, true));
        refused("15: dead(0, 0, true)", BAD, x -> x.dead(0, 0, true));
        refused("16: plan(6, 10)", BAD, x -> x.plan(6, 10));
        refused("16: plan(-1, 10)", BAD, x -> x.plan(-1, 10));
        refused("16: plan(0, 98)", BAD, x -> x.plan(0, 98));
        refused("17: cut(7)", BAD, x -> x.cut(Given.ACTS + 1));
        refused("17: cut(-1)", BAD, x -> x.cut(-1));
    }

    private void calls() {
        refused("18: dial(6, 11)", BAD, x -> x.dial(6, 11));
        refused("18: dial(-1, 11)", BAD, x -> x.dial(-1, 11));
        refused("18: dial(4, 45)", BAD, x -> x.dial(4, 45));
        refused("18: dial(4, 5)", BAD, x -> x.dial(4, 5));
        refused("18: dial(4, 99)", BAD, x -> x.dial(4, 99));
        refused("18: dial(0, 99) in a call", BAD, x -> x.dial(0, 99));
        refused("18: dial(0, 44) in a call", STATE, x -> x.dial(0, 44));
        refused("18: dial(3, 10) in a call", STATE, x -> x.dial(3, 10));
        refused("19: hang(6)", BAD, x -> x.hang(6));
        refused("19: hang(-1)", BAD, x -> x.hang(-1));
        refused("19: hang(4)", STATE, x -> x.hang(4));
        refused("19: hang(5)", STATE, x -> x.hang(5));
        refused("20: runs(5)", BAD, x -> x.runs(5));
        refused("21: fate(6)", BAD, x -> x.fate(6));
        refused("22: ahead(6)", BAD, x -> x.ahead(6));
    }

    private void whatIsBest() {
        refused("23: need(5)", BAD, x -> x.need(5));
        refused("25: grade(5, 0)", BAD, x -> x.grade(5, 0));
        refused("25: grade(0, 2)", BAD, x -> x.grade(0, 2));
        refused("26: swap(2)", BAD, x -> x.swap(2));
        refused("27: leave(2)", BAD, x -> x.leave(2));
        refused("28: more(2)", BAD, x -> x.more(2));
        refused("29: luck(11, 0, 1, 0)", BAD, x -> x.luck(11, 0, 1, 0));
        refused("29: luck(5, 1, 1, 0)", BAD, x -> x.luck(5, 1, 1, 0));
        refused("30: mean(11, 0)", BAD, x -> x.mean(11, 0));
    }

    private void whichWay() {
        refused("31: see(8, 0)", BAD, x -> x.see(8, 0));
        refused("31: see(-1, 0)", BAD, x -> x.see(-1, 0));
        refused("31: see(0, 7)", BAD, x -> x.see(0, 7));
        refused("31: see(0, -1)", BAD, x -> x.see(0, -1));
        refused("32: forget(4)", BAD, x -> x.forget(Given.SEEN + 1));
        refused("32: forget(-1)", BAD, x -> x.forget(-1));
        refused("33: hunts(5)", BAD, x -> x.hunts(5));
        refused("34: deads(5)", BAD, x -> x.deads(5));
        refused("35: ask(5, 0)", BAD, x -> x.ask(5, 0));
        refused("36: drift(1, 0, 0)", BAD, x -> x.drift(1, 0, 0));
        refused("36: drift(1, 61, 0)", BAD, x -> x.drift(1, 61, 0));
    }

    private void imagesAndSheets() {
        refused("37: keep(2)", BAD, x -> x.keep(2));
        refused("37: keep(-1)", BAD, x -> x.keep(-1));
        refused("38: back(2)", BAD, x -> x.back(2));
        refused("38: back(-1)", BAD, x -> x.back(-1));
        refused("38: back(0)", STATE, x -> x.back(0));
        refused("39: sheet(0, 0, 41)", BAD, x -> x.sheet(0, 0, 41));
        refused("39: sheet(0, 3, 1)", BAD, x -> x.sheet(0, 3, 1));
        refused("39: sheet(4, 0, 1)", BAD, x -> x.sheet(4, 0, 1));
        refused("39: sheet(0, 1, -1)", -14, x -> x.sheet(0, 1, -1));
        refused("39: sheet(3, 1, -1)", -14, x -> x.sheet(3, 1, -1));
        refused("40: lay(4, 0, 1)", BAD, x -> x.lay(4, 0, 1));
        refused("40: lay(3, 0, 1)", -11, x -> x.lay(3, 0, 1));
        refused("40: lay(0, 6, 1)", -12, x -> x.lay(0, 6, 1));
        refused("40: lay(0, -1, 1)", -12, x -> x.lay(0, -1, 1));
        refused("40: lay(2, 0, 1)", -12, x -> x.lay(2, 0, 1));
        refused("41: read(4, 0, 0, 1)", BAD, x -> x.read(4, 0, 0, 1));
        refused("41: read(0, 3, 0, 1)", BAD, x -> x.read(0, 3, 0, 1));
        refused("41: read(0, 0, 0, 21)", BAD, x -> x.read(0, 0, 0, 21));
        refused("41: read(0, 0, 0, -1)", BAD, x -> x.read(0, 0, 0, -1));
        refused("43: count(6)", BAD, x -> x.count(6));
    }

    /** "-20 less i .. the i-th, whole, is refused .. then none came": the ones ahead, nor torn(), leave a trace. */
    private void sheetsThatAreRefused() {
        int[][] ahead = {{}, {4, 44}, {4, 44, 5, 99}, {0, 99, 2, 99, 1, 21}, {4, 12, 5, 12, 4, 20}};
        int[][] wrong = {{6, 11}, {-1, 11}, {0, 45}, {0, 5}, {0, 98}, {6, 99}};
        for (int[] first : ahead) {
            for (int[] last : wrong) {
                int[] cells = new int[first.length + 2];
                System.arraycopy(first, 0, cells, 0, first.length);
                cells[first.length] = last[0];
                cells[first.length + 1] = last[1];
                RefusedTest filled = new RefusedTest("a SHEET of " + cells.length + " CELLS", () -> {
                    StepCalls x = Given.part();
                    Check.fill(x, 2, cells);
                    return x;
                });
                int due = -20 - first.length / 2;
                filled.refused("41: read(0, 2, 0, n)", due, x -> x.read(0, 2, 0, cells.length / 2));
                filled.refused("41: read(0, 2, 0, 20)", due, x -> x.read(0, 2, 0, 20));
            }
        }
    }

    private void ofFull() {
        refused("2: feed(0)", FULL, x -> x.feed(0));
        refused("2: feed(127)", FULL, x -> x.feed(127));
        refused("3: end(161)", BAD, x -> x.end(161));
        refused("11: number(5, 40)", STATE, x -> x.number(5, 40));
        refused("12: finders(2)", STATE, x -> x.finders(2));
        refused("14: ways(2, 3)", STATE, x -> x.ways(2, 3));
        refused("16: plan(0, 44)", FULL, x -> x.plan(0, 44));
        refused("16: plan(0, 99)", FULL, x -> x.plan(0, 99));
        refused("17: cut(9)", BAD, x -> x.cut(9));
        refused("18: dial(0, 44)", STATE, x -> x.dial(0, 44));
        refused("26: swap(0), all being in calls", NONE, x -> x.swap(0));
        refused("28: more(0), all having 4 WAYS", NONE, x -> x.more(0));
        refused("31: see(0, 0)", FULL, x -> x.see(0, 0));
        refused("31: see(7, 6)", FULL, x -> x.see(7, 6));
        refused("32: forget(7)", BAD, x -> x.forget(7));
        refused("40: lay(3, 40, 1)", -12, x -> x.lay(3, 40, 1));
        refused("41: read(0, 0, 0, 20)", -20, x -> x.read(0, 0, 0, 20));
    }

    private void ofNobody() {
        refused("3: end(1)", BAD, x -> x.end(1));
        refused("11: number(0, 0)", BAD, x -> x.number(0, 0));
        refused("16: plan(0, 0)", BAD, x -> x.plan(0, 0));
        refused("17: cut(1)", BAD, x -> x.cut(1));
        refused("18: dial(0, 0)", BAD, x -> x.dial(0, 0));
        refused("19: hang(0)", BAD, x -> x.hang(0));
        refused("32: forget(1)", BAD, x -> x.forget(1));
        refused("36: drift(1, 1, 0)", STATE, x -> x.drift(1, 1, 0));
        refused("38: back(0)", STATE, x -> x.back(0));
        refused("38: back(1)", STATE, x -> x.back(1));
        refused("39: sheet(0, 0, -1)", -14, x -> x.sheet(0, 0, -1));
        refused("40: lay(0, 0, 0)", -11, x -> x.lay(0, 0, 0));
    }

    /** Calls that tell, whatever they answer. */
    private void tellsAlone() {
        for (int i = 0; i < 5; i++) {
            int p = i;
            tells("20: runs(" + p + ")", x -> x.runs(p));
            tells("21: fate(" + p + ")", x -> x.fate(p));
            tells("22: ahead(" + p + ")", x -> x.ahead(p));
            tells("23: need(" + p + ")", x -> x.need(p));
            tells("25: grade(" + p + ", 0)", x -> x.grade(p, 0));
            tells("29: luck(3, " + p + ", 5, 0)", x -> x.luck(3, p, 5, 0));
            tells("33: hunts(" + p + ")", x -> x.hunts(p));
            tells("34: deads(" + p + ")", x -> x.deads(p));
            tells("35: ask(" + p + ", 0)", x -> x.ask(p, 0));
            tells("36: drift(" + p + ", 60, 0)", x -> x.drift(p, 60, 0));
        }
        tells("24: few()", x -> x.few());
        tells("26: swap(0)", x -> x.swap(0));
        tells("27: leave(0)", x -> x.leave(0));
        tells("28: more(0)", x -> x.more(0));
        tells("30: mean(7, 1)", x -> x.mean(7, 1));
        tells("5: fault()", x -> x.fault());
        tells("42: torn()", x -> x.torn());
    }
}
