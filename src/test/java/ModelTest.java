import java.util.Random;

/** Long runs of drawn calls, each answered by ActRows and by the model. */
public final class ModelTest {
    private static final int RUNS = 1500;
    private static final int CALLS = 512;
    private static final int[] EDGES = {
        -1, 4, 5, 6, 9, 10, 14, 15, 16, 21, 60, 61, Integer.MIN_VALUE, Integer.MAX_VALUE, -128
    };

    private final Random random;
    private final Checks checks;
    private final ActRows x = new ActRows();
    private final Model m = new Model();
    private int left = CALLS;

    private ModelTest(long seed, Checks checks) {
        this.random = new Random(seed);
        this.checks = checks;
    }

    public static void main(String[] args) {
        Checks checks = new Checks();
        for (int seed = 0; seed < RUNS; seed++) {
            new ModelTest(seed, checks).go();
        }
        checks.end();
    }

    private void go() {
        if (below(8) > 0) {
            program();
        }
        while (left > 0) {
            int which = below(100);
            if (which < 2) {
                program();
            } else if (which < 6) {
                day();
            } else if (which < 20) {
                sheets();
            } else {
                call();
            }
        }
    }

    private void due(String call, long got, long want) {
        left--;
        checks.due(call, got, want);
    }

    private int below(int n) {
        return random.nextInt(n);
    }

    /** A number below n, or now and then one at an edge. */
    private int near(int n) {
        return below(12) == 0 ? EDGES[below(EDGES.length)] : below(n);
    }

    private int function() {
        return below(12) == 0 ? EDGES[below(EDGES.length)] : below(Math.max(1, m.functions.size()));
    }

    private String text() {
        StringBuilder text = new StringBuilder("e");
        int functions = 1 + below(5);
        int acts = 1 + below(4);
        for (int f = 0; f < functions; f++) {
            text.append(';').append("plk".charAt(below(3))).append(below(acts));
            int steps = below(5);
            for (int i = 0; i < steps; i++) {
                boolean calls = f > 0 && below(2) == 0;
                text.append(calls ? (char) ('0' + below(f)) : (char) ('a' + below(acts)));
            }
        }
        if (below(4) == 0) {
            spoil(text);
        }
        return text.toString();
    }

    private void spoil(StringBuilder text) {
        int place = below(text.length());
        switch (below(4)) {
            case 0 -> text.setLength(place);
            case 1 -> text.setCharAt(place, "e;plkabcd0123456 ".charAt(below(17)));
            case 2 -> text.insert(place, "e;plkabcd0123456 ".charAt(below(17)));
            default -> text.append(";p0");
        }
    }

    private void program() {
        String text = text();
        int n = Math.min(60, text.length());
        int sheet = below(4);
        int lane = below(3);
        int i = below(61 - n);
        due("sheet", x.sheet(sheet, lane, i + n), m.sheet(sheet, lane, i + n));
        for (int k = 0; k < n; k++) {
            due("put", x.put(sheet, i + k, text.charAt(k)), m.put(sheet, i + k, text.charAt(k)));
        }
        due("program " + text, x.program(sheet, lane, i, n), m.program(sheet, lane, i, n));
    }

    private void day() {
        int sheet = below(4);
        int lane = below(3);
        int n = below(4);
        due("sheet", x.sheet(sheet, lane, 2 * n), m.sheet(sheet, lane, 2 * n));
        for (int p = 0; p < n; p++) {
            int second = near(11);
            int first = below(20) == 0 ? near(16) : second < 5 ? 0 : second == 5 ? below(16) : below(4);
            due("put", x.put(sheet, 2 * p, first), m.put(sheet, 2 * p, first));
            due("put", x.put(sheet, 2 * p + 1, second), m.put(sheet, 2 * p + 1, second));
        }
        for (int what : new int[] {0, 1, 2, 3, 4, 10, 11, 12, 13, 14, near(16)}) {
            due("day " + what, x.day(sheet, lane, 0, n, what), m.day(sheet, lane, 0, n, what));
        }
    }

    private void sheets() {
        int k = below(20) == 0 ? near(4) : below(4);
        int lane = below(12) == 0 ? near(3) : below(3);
        int i = near(12);
        int j = near(12);
        int n = near(12);
        switch (below(9)) {
            case 0 -> due("sheet", x.sheet(k, lane, n), m.sheet(k, lane, n));
            case 1 -> due("lose", x.lose(k), m.lose(k));
            case 2, 3 -> {
                int v = random.nextInt();
                due("put", x.put(k, i, v), m.put(k, i, v));
            }
            case 4, 5 -> due("cell", x.cell(k, i, lane), m.cell(k, i, lane));
            case 6 -> {
                int other = below(3) == 0 ? k : near(4);
                due("copy", x.copy(k, i, other, j, n), m.copy(k, i, other, j, n));
            }
            case 7 -> due("program", x.program(k, lane, i, n), m.program(k, lane, i, n));
            default -> {
                int what = near(15);
                due("day", x.day(k, lane, i, n, what), m.day(k, lane, i, n, what));
            }
        }
        due("fault", x.fault(), m.fault);
    }

    private void call() {
        int f = function();
        int g = function();
        int a = near(4);
        switch (below(24)) {
            case 0 -> {
                int what = near(5);
                due("ofFunction " + what, x.ofFunction(f, what), m.ofFunction(f, what));
            }
            case 1 -> due("step", x.step(f, a), m.step(f, a));
            case 2 -> {
                int v = near(8);
                due("patch", x.patch(f, a, v), m.patch(f, a, v));
            }
            case 3 -> due("guard", x.guard(f, a), m.guard(f, a));
            case 4 -> {
                int set = near(16);
                due("live", x.live(set), m.live(set));
            }
            case 5, 6 -> due("run " + a, x.run(f, a), m.run(f, a));
            case 7 -> {
                int k = below(3) == 0 ? below(300) : near(6);
                due("performed", x.performed(f, k), m.performed(f, k));
            }
            case 8 -> {
                int k = near(5);
                due("path", x.path(f, k), m.path(f, k));
            }
            case 9 -> due("witness", x.witness(f, a), m.witness(f, a));
            case 10 -> due("free", x.free(f, g), m.free(f, g));
            case 11 -> {
                // the model is slow in this
                if (below(6) == 0) {
                    due("plugs", x.plugs(f), m.plugs(f));
                }
            }
            case 12 -> due("more", x.more(f, g), m.more(f, g));
            case 13 -> reading(f);
            case 14 -> {
                int k = near(3);
                due("back", x.back(k), m.back(k));
            }
            case 15 -> due("kinds", x.kinds(f), m.kinds(f));
            case 16 -> due("guards", x.guards(f), m.guards(f));
            case 17 -> due("lives", x.lives(), m.lives());
            case 18 -> {
                int out = near(5);
                int which = near(2);
                due("odds", x.odds(f, out, which), m.odds(f, out, which));
            }
            case 19 -> due("tell", x.tell(f), m.tell(f));
            case 20 -> due("name", x.name(f), m.name(f));
            case 21 -> due("as", x.as(f, a), m.as(f, a));
            case 22 -> due("many", x.many(a), m.many(a));
            default -> {
                due("trace", x.trace(), m.trace);
                due("fault", x.fault(), m.fault);
            }
        }
    }

    /** Mostly what does come out, so that something is left that follows. */
    private void reading(int f) {
        int out = m.has(f) && below(4) > 0 ? m.out(m.live, f) : near(5);
        due("reading", x.reading(f, out), m.reading(f, out));
    }
}
