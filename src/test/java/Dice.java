/** Numbers by a seed, and exchanges made of them: the same in every run. */
final class Dice {
    private long state;

    Dice(long seed) {
        state = seed;
    }

    int next(int bound) {
        state = state * 6364136223846793005L + 1442695040888963407L;
        return (int) ((state >>> 33) % bound);
    }

    int number() {
        return 10 * next(5) + next(5);
    }

    /** Some text that is taken. */
    String text() {
        StringBuilder text = new StringBuilder();
        boolean[] told = new boolean[45];
        int ones = 1 + next(6);
        int made = 0;
        while (made < ones) {
            int n = number();
            if (!told[n]) {
                told[n] = true;
                text.append("line ").append(n).append(';');
                made++;
            }
        }
        if (next(2) == 0) {
            text.append("finders ").append(1 + next(4)).append(';');
        }
        String[] kinds = {"home", "on", "back", "spread"};
        for (int t = 0; t < 5; t++) {
            if (next(3) > 0) {
                text.append(kinds[next(4)]).append(' ').append(t).append(' ').append(next(5)).append(';');
            }
        }
        return text.toString();
    }

    /** Some exchange with calls, USES, DEAD ones, a plan. */
    StepCalls exchange() {
        StepCalls x = Check.of(text());
        for (int i = 0; i < 12; i++) {
            int a = next(x.rule(0));
            if (x.one(a, 2) != 0 && next(3) > 0) {
                x.hang(a);
            }
            x.dial(a, someNumber(x));
        }
        for (int t = 0; t < 5; t++) {
            for (int w = 0; w < x.group(t, 1); w++) {
                x.dead(t, w, next(4) == 0);
            }
        }
        int acts = next(9);
        for (int i = 0; i < acts; i++) {
            x.plan(next(x.rule(0)), next(3) == 0 ? 99 : someNumber(x));
        }
        return x;
    }

    int someNumber(StepCalls x) {
        return next(4) == 0 || x.rule(0) == 0 ? number() : x.one(next(x.rule(0)), 0);
    }
}
