/** An object in which everything is held at once, and all that can be seen of one. */
final class Fixture {
    /** The fault that is pending in a made one, so that it shows whether a call touches fault(). */
    static final int PENDING = 3;
    static final int FUNCTIONS = 3;
    static final String TEXT = "e;p0a;l1b0;k210cd";

    private Fixture() {
    }

    /**
     * Functions of each kind with 1, 2 and 4 steps, not all acts live, two readings, a trace; sheets
     * of each lane (0: a day, 1: a text, 2: numbers), and nothing in 3.
     */
    static ActRows made() {
        ActRows x = Checks.with(TEXT);
        x.live(7);
        x.reading(0, 0);
        x.reading(1, 4);
        x.tell(2);
        Checks.write(x, 0, 0, 3, 5, 1, 6);
        Checks.write(x, 1, 1, "e;p0a");
        Checks.write(x, 2, 2, 7, 70000, -1);
        x.put(2, 3, 0);
        return x;
    }

    /** Everything but fault() that can be seen of an object; readings are taken back by it. */
    static String seen(ActRows x) {
        StringBuilder seen = new StringBuilder();
        seen.append("trace ").append(x.trace());
        for (int what = 0; what <= 4; what++) {
            seen.append(" many ").append(x.many(what));
        }
        int functions = x.many(0);
        for (int f = 0; f < functions; f++) {
            seen.append(" function");
            for (int what = 0; what <= 4; what++) {
                seen.append(' ').append(x.ofFunction(f, what));
            }
            for (int i = 0; i < x.ofFunction(f, 2); i++) {
                seen.append(" step ").append(x.step(f, i));
            }
        }
        int live = x.live(0);
        x.live(live);
        seen.append(" live ").append(live);
        sheets(x, seen);
        while (x.many(4) > 0) {
            seen.append(" lives ").append(x.lives()).append(" kinds");
            for (int f = 0; f < functions; f++) {
                seen.append(' ').append(x.kinds(f)).append(' ').append(x.guards(f));
            }
            x.back(1);
        }
        return seen.toString();
    }

    private static void sheets(ActRows x, StringBuilder seen) {
        for (int k = 0; k < 4; k++) {
            seen.append(" sheet");
            for (int lane = 0; lane < 3; lane++) {
                long cell = x.cell(k, 0, lane);
                seen.append(' ').append(x.fault());
                for (int i = 1; cell != ActRows.LOST && i <= 60; i++) {
                    seen.append(' ').append(cell);
                    cell = x.cell(k, i, lane);
                }
            }
        }
    }
}
