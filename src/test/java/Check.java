/** What all tests share: answers that are compared, texts that are fed. */
final class Check {
    private final String name;
    private int wrong = 0;
    private int compared = 0;

    Check(String name) {
        this.name = name;
    }

    void due(String what, long got, long want) {
        compared++;
        if (got != want) {
            wrong++;
            System.out.println(name + ": " + what + " answered " + got + ", due is " + want);
        }
    }

    void same(String what, String got, String want) {
        compared++;
        if (!got.equals(want)) {
            wrong++;
            System.out.println(name + ": " + what + " is" + System.lineSeparator() + "  " + got + System.lineSeparator() + "  due is");
            System.out.println("  " + want);
        }
    }

    boolean failed() {
        return wrong > 0;
    }

    void finish() {
        System.out.println(name + ": " + compared + " answers, " + wrong + " wrong");
        if (wrong > 0 || compared == 0) {
            System.exit(1);
        }
    }

    static void feed(StepCalls x, String text) {
        for (int i = 0; i < text.length(); i++) {
            x.feed(text.charAt(i));
        }
    }

    static int text(StepCalls x, String text) {
        feed(x, text);
        return x.text();
    }

    static StepCalls of(String text) {
        StepCalls x = new StepCalls();
        if (text(x, text) < 0) {
            throw new IllegalArgumentException("a text of the test itself is refused: " + text);
        }
        return x;
    }

    /** A sheet 0 of a lane with these cells. */
    static void fill(StepCalls x, int lane, int... cells) {
        x.sheet(0, lane, cells.length);
        for (int i = 0; i < cells.length; i++) {
            x.lay(0, i, cells[i]);
        }
    }
}
