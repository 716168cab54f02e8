import java.util.ArrayList;
import java.util.List;

/** All promises at once: long runs of calls by a seed, each answer compared with Model's. */
public final class ModelTest {
    private static final Check CHECK = new Check("ModelTest");
    private static final int RUNS = 1500, CALLS = 500;

    private final StepCalls x = new StepCalls();
    private final Model y = new Model();
    private final Dice dice;
    private final List<String> told = new ArrayList<>();
    private boolean wrong = false;

    private ModelTest(int seed) {
        dice = new Dice(seed);
    }

    public static void main(String[] args) {
        for (int seed = 0; seed < RUNS && !CHECK.failed(); seed++) {
            new ModelTest(seed).run(seed);
        }
        CHECK.finish();
    }

    private void run(int seed) {
        while (told.size() < CALLS - 170 && !wrong) {
            if (dice.next(40) == 0 || told.isEmpty()) {
                feedAll(text());
                note("text()", x.text(), y.text());
                note("fault()", x.fault(), y.fault());
            } else {
                call();
            }
        }
        while (told.size() < CALLS && !wrong) {
            call();
        }
        if (wrong) {
            System.out.println("seed " + seed);
            for (String line : told) {
                System.out.println("  " + line);
            }
        }
    }

    private void note(String call, long got, long due) {
        CHECK.due(call, got, due);
        told.add(call + " " + got);
        wrong |= got != due;
    }

    private void feedAll(String text) {
        for (int i = 0; i < text.length(); i++) {
            char c = text.charAt(i);
            note("feed(" + (int) c + ")", x.feed(c), y.feed(c));
        }
    }

    /** A text, with a plan, often with something wrong in it. */
    private String text() {
        StringBuilder text = new StringBuilder(dice.text());
        if (dice.next(2) == 0) {
            text.append("plan");
            int acts = dice.next(dice.next(3) == 0 ? 11 : 6);
            for (int i = 0; i < acts; i++) {
                text.append(' ').append(dice.next(dice.next(9) == 0 ? 8 : 2)).append(' ').append(dice.next(4) == 0 ? 99 : dice.number());
            }
            text.append(';');
        }
        if (dice.next(3) == 0) {
            spoil(text);
        }
        if (text.length() > 160) {
            text.setLength(160);
        }
        return text.toString();
    }

    private void spoil(StringBuilder text) {
        String[] bits = {" ", ";", "0", "4", "9", "line", "plan", "plan;", "finders 3;", "on 1 1;", "line 00;", ".", "\t", " 5 ", "home", "x"};
        for (int i = dice.next(3); i >= 0; i--) {
            int at = dice.next(text.length() + 1);
            switch (dice.next(3)) {
                case 0:
                    text.insert(at, bits[dice.next(bits.length)]);
                    break;
                case 1:
                    if (at < text.length()) {
                        text.deleteCharAt(at);
                    }
                    break;
                default:
                    text.append(bits[dice.next(bits.length)]);
                    break;
            }
        }
    }

    /** Of some bounds, at times beyond them. */
    private int some(int bound) {
        return dice.next(25) == 0 ? new int[] {-1, bound, Integer.MAX_VALUE, Integer.MIN_VALUE}[dice.next(4)] : dice.next(bound);
    }

    private int one() {
        int ones = y.rule(0);
        return ones == 0 ? dice.next(6) : some(ones);
    }

    private int dialled() {
        return dice.next(25) == 0 ? dice.next(110) - 5 : y.rule(0) == 0 || dice.next(4) == 0 ? dice.number() : y.one(dice.next(y.rule(0)), 0);
    }

    private int act() {
        return dice.next(5) == 0 ? 99 : dialled();
    }

    private void call() {
        switch (dice.next(5)) {
            case 0:
                tell();
                break;
            case 1:
                change();
                break;
            case 2:
                callUp();
                break;
            case 3:
                weigh();
                break;
            default:
                sheets();
                break;
        }
    }

    private void tell() {
        int p = some(dice.next(2) == 0 ? 5 : 7);
        int q = some(6);
        switch (dice.next(11)) {
            case 0:
                note("rule(" + q + ")", x.rule(q), y.rule(q));
                break;
            case 1:
                p = one();
                q = some(4);
                note("one(" + p + ", " + q + ")", x.one(p, q), y.one(p, q));
                break;
            case 2:
            case 3:
                note("group(" + p + ", " + q + ")", x.group(p, q), y.group(p, q));
                break;
            case 4:
                note("uses(" + p + ", " + q + ")", x.uses(p, q), y.uses(p, q));
                break;
            case 5:
                q = some(2);
                note("act(" + p + ", " + q + ")", x.act(p, q), y.act(p, q));
                break;
            case 6:
                note("runs(" + p + ")", x.runs(p), y.runs(p));
                break;
            case 7:
                p = some(8);
                note("fate(" + p + ")", x.fate(p), y.fate(p));
                break;
            case 8:
                p = one();
                note("ahead(" + p + ")", x.ahead(p), y.ahead(p));
                break;
            case 9:
                note("count(" + q + ")", x.count(q), y.count(q));
                break;
            default:
                p = some(130);
                note("feed(" + p + ")", x.feed(p), y.feed(p));
                p = dice.next(4);
                note("end(" + p + ")", x.end(p), y.end(p));
                note("end(0)", x.end(0), y.end(0));
                break;
        }
    }

    private void change() {
        int a = one();
        int t = some(5);
        switch (dice.next(10)) {
            case 0:
                int n = dialled();
                note("number(" + a + ", " + n + ")", x.number(a, n), y.number(a, n));
                break;
            case 1:
                n = 1 + some(5);
                note("finders(" + n + ")", x.finders(n), y.finders(n));
                break;
            case 2:
                n = some(4);
                note("hunt(" + t + ", " + n + ")", x.hunt(t, n), y.hunt(t, n));
                break;
            case 3:
            case 4:
                n = some(5);
                note("ways(" + t + ", " + n + ")", x.ways(t, n), y.ways(t, n));
                break;
            case 5:
                n = some(4);
                boolean is = dice.next(3) == 0;
                note("dead(" + t + ", " + n + ", " + is + ")", x.dead(t, n, is), y.dead(t, n, is));
                break;
            case 6:
            case 7:
            case 8:
                n = act();
                note("plan(" + a + ", " + n + ")", x.plan(a, n), y.plan(a, n));
                break;
            default:
                n = some(9);
                note("cut(" + n + ")", x.cut(n), y.cut(n));
                break;
        }
    }

    private void callUp() {
        int a = one();
        int n = dialled();
        switch (dice.next(4)) {
            case 0:
                note("hang(" + a + ")", x.hang(a), y.hang(a));
                break;
            case 1:
                int seed = dice.next(1 << 30) * (dice.next(2) == 0 ? 1 : -2);
                int times = some(61);
                int what = some(2);
                note("drift(" + seed + ", " + times + ", " + what + ")", x.drift(seed, times, what), y.drift(seed, times, what));
                break;
            default:
                note("dial(" + a + ", " + n + ")", x.dial(a, n), y.dial(a, n));
                break;
        }
    }

    private void weigh() {
        int t = some(5);
        int what = some(2);
        int v = some(11);
        switch (dice.next(14)) {
            case 0:
                note("need(" + t + ")", x.need(t), y.need(t));
                break;
            case 1:
                note("few()", x.few(), y.few());
                break;
            case 2:
                note("grade(" + t + ", " + what + ")", x.grade(t, what), y.grade(t, what));
                break;
            case 3:
                note("swap(" + what + ")", x.swap(what), y.swap(what));
                break;
            case 4:
                note("leave(" + what + ")", x.leave(what), y.leave(what));
                break;
            case 5:
                note("more(" + what + ")", x.more(what), y.more(what));
                break;
            case 6:
                int a = one();
                int b = one();
                note("luck(" + v + ", " + a + ", " + b + ", " + what + ")", x.luck(v, a, b, what), y.luck(v, a, b, what));
                break;
            case 7:
                note("mean(" + v + ", " + what + ")", x.mean(v, what), y.mean(v, what));
                break;
            case 8:
                int i = some(8);
                int fate = y.fate(i) >= 0 && dice.next(4) > 0 ? y.fate(i) : some(7);
                note("see(" + i + ", " + fate + ")", x.see(i, fate), y.see(i, fate));
                break;
            case 9:
                int n = dice.next(2) == 0 ? 0 : some(7);
                note("forget(" + n + ")", x.forget(n), y.forget(n));
                break;
            case 10:
                note("hunts(" + t + ")", x.hunts(t), y.hunts(t));
                break;
            case 11:
                note("deads(" + t + ")", x.deads(t), y.deads(t));
                break;
            default:
                note("ask(" + t + ", " + what + ")", x.ask(t, what), y.ask(t, what));
                break;
        }
    }

    private void sheets() {
        int k = some(dice.next(3) == 0 ? 4 : 2);
        int lane = some(dice.next(3) == 0 ? 3 : 1);
        switch (dice.next(9)) {
            case 0:
                k = some(2);
                note("keep(" + k + ")", x.keep(k), y.keep(k));
                break;
            case 1:
                k = some(2);
                note("back(" + k + ")", x.back(k), y.back(k));
                break;
            case 2:
                int n = some(41);
                note("sheet(" + k + ", " + lane + ", " + n + ")", x.sheet(k, lane, n), y.sheet(k, lane, n));
                break;
            case 3:
            case 4:
            case 5:
                for (int j = dice.next(6); j >= 0; j--) {
                    int i = dice.next(2) == 0 ? dice.next(6) : some(40);
                    int v = (i % 2 == 0 ? one() : act()) + (dice.next(6) == 0 ? 256 * dice.next(300) : 0);
                    note("lay(" + k + ", " + i + ", " + v + ")", x.lay(k, i, v), y.lay(k, i, v));
                }
                break;
            case 6:
                note("torn()", x.torn(), y.torn());
                break;
            default:
                int f = dice.next(3) == 0 ? some(40) : dice.next(3) * 2;
                n = dice.next(3) == 0 ? some(21) : dice.next(4);
                note("read(" + k + ", " + lane + ", " + f + ", " + n + ")", x.read(k, lane, f, n), y.read(k, lane, f, n));
                break;
        }
    }
}
