/** What an object is, told as one text, so that two can be compared; in 220 calls, as an object is promised for 512. */
final class Probe {
    private Probe() {
    }

    /** All but THE TAPE and its FAULT; the object is as it was behind it. */
    static String told(StepCalls x) {
        StringBuilder all = new StringBuilder("rule");
        for (int what = 0; what < 6; what++) {
            add(all, x.rule(what));
        }
        int ones = x.rule(0);
        for (int a = 0; a < ones; a++) {
            all.append("; one ").append(a);
            for (int what = 0; what < 4; what++) {
                add(all, x.one(a, what));
            }
        }
        for (int t = 0; t < 5; t++) {
            all.append("; group ").append(t);
            for (int what = 0; what < 6; what++) {
                add(all, x.group(t, what));
            }
            int ways = x.group(t, 1);
            for (int w = 0; w < ways; w++) {
                add(all, x.uses(t, w));
            }
        }
        all.append("; plan");
        int acts = x.rule(3);
        for (int i = 0; i < acts; i++) {
            add(all, x.act(i, 0));
            add(all, x.act(i, 1));
        }
        all.append("; torn").append(x.torn()).append("; count");
        for (int what = 0; what < 6; what++) {
            add(all, what == 2 ? 0 : x.count(what));
        }
        return all.toString();
    }

    /** All, what can not be asked without a change, too: the object is used up by it. */
    static String all(StepCalls x) {
        StringBuilder all = new StringBuilder(told(x));
        all.append("; tape").append(x.count(2)).append("; fault").append(x.fault()).append("; seen");
        int seen = x.count(0);
        for (int n = seen; n > 0; n--) {
            add(all, x.hunts(2));
            add(all, x.forget(n - 1));
        }
        add(all, x.hunts(2));
        for (int k = 0; k < 2; k++) {
            all.append("; image ").append(k);
            add(all, x.back(k));
            brief(all, x);
        }
        for (int k = 0; k < 4; k++) {
            all.append("; sheet ").append(k);
            for (int lane = 0; lane < 3; lane++) {
                add(all, x.read(k, lane, 0, 1));
            }
            add(all, x.read(k, k % 3, 2, 1));
            add(all, x.read(k, k % 3, 4, 1));
            add(all, x.torn());
            add(all, x.rule(5));
        }
        add(all.append("; text"), x.text());
        add(all, x.fault());
        brief(all, x);
        return all.toString();
    }

    private static void brief(StringBuilder all, StepCalls x) {
        for (int what = 0; what < 6; what++) {
            add(all, x.rule(what));
        }
        for (int a = 0; a < 6; a++) {
            add(all, x.one(a, 0));
        }
        for (int t = 0; t < 5; t++) {
            add(all, x.group(t, 0));
            add(all, x.group(t, 4));
        }
        add(all, x.count(0));
        add(all, x.count(4));
        add(all, x.count(5));
    }

    private static void add(StringBuilder all, int answer) {
        all.append(' ').append(answer);
    }
}
