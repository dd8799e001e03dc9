/** The document's terms under 2 and the promises 8 to 11: runs and days. */
final class RunSentences {
    private static final int LEAST = Integer.MIN_VALUE;
    private static final int MOST = Integer.MAX_VALUE;
    private static final int NONE = ActRows.NONE;

    private final Sentences s;

    RunSentences(Sentences s) {
        this.s = s;
    }

    void tell() {
        steps();
        guarded();
        ends();
        pathTerm();
        dayTerms();
        run();
        performed();
        path();
        dayAnswers();
        dayThen();
        dayWrong();
        dayRefusals();
        dayFaults();
        dayPairs();
        dayOrder();
    }

    private void ran(String text, int f, int out, int acts, int ends, int path) {
        ranBy(text, 15, f, out, acts, ends, path);
    }

    private void ranBy(String text, int live, int f, int... due) {
        ActRows x = Checks.with(text);
        x.live(live);
        for (int what = 0; what < 4; what++) {
            s.due(text + " by " + live + ", " + what + " of " + f, x.run(f, what), due[what]);
        }
    }

    private void acts(String text, int live, int f, int... acts) {
        ActRows x = Checks.with(text);
        x.live(live);
        for (int k = 0; k < acts.length; k++) {
            s.due(text + " by " + live + ", act " + k + " of " + f, x.performed(f, k), acts[k]);
        }
        s.due(text + " by " + live + ", no act more", x.performed(f, acts.length), NONE);
    }

    private void steps() {
        s.of(Sentences.TERMS, "A RUN of a FUNCTION does its STEPS one behind another.", () -> {
            ran("e;p0", 0, NONE, 0, 1, 0);
            acts("e;k0a;k0aaaa;k1b0b1", 15, 2, 1, 0, 1, 0, 0, 0, 0);
            ran("e;p0dcba", 0, 3, 1, 1, 1);
        });
        s.of(Sentences.TERMS, "An ACT that is not LIVE does nothing.", () -> {
            ranBy("e;p0abcd", 0, 0, NONE, 0, 1, 0);
            ranBy("e;p0abcd", 8, 0, 3, 1, 1, 1);
            ranBy("e;l0ab", 2, 0, 1, 1, 1, 1);
            ranBy("e;k0aaab", 2, 0, 1, 1, 1, 1);
        });
        s.of(Sentences.TERMS, "One that is LIVE is PERFORMED: it comes out of that STEP,", () -> {
            for (int act = 0; act < 4; act++) {
                ranBy("e;p0" + "abcd".charAt(act), 1 << act, 0, act, 1, 1, 1);
                ranBy("e;p0" + "abcd".charAt(act), 15 - (1 << act), 0, NONE, 0, 1, 0);
            }
        });
        s.of(Sentences.TERMS, "as what comes out of a FUNCTION that is called comes out of the STEP that calls it.", () -> {
            ran("e;p0a;p00b", 1, 0, 1, 2, 2);
            ran("e;p0;p00b", 1, 1, 1, 2, 1);
            ran("e;p0a;l00b", 1, NONE, 1, 2, 0);
            ran("e;p0a;k00b", 1, 1, 2, 2, 1);
        });
    }

    private void guarded() {
        s.of(Sentences.TERMS, "What comes out of a STEP of a PLAIN FUNCTION comes out of it at once;", () -> {
            ran("e;p0ab", 0, 0, 1, 1, 1);
            ran("e;p0aaaa", 0, 0, 1, 1, 1);
            ran("e;p0a;p00b", 1, 0, 1, 2, 2);
        });
        s.of(Sentences.TERMS, "so it does of a LEAVING or KEEPING one, if it does not GUARD against it;", () -> {
            ran("e;l1ab", 0, 0, 1, 1, 1);
            ran("e;k1ab", 0, 0, 1, 1, 1);
            ran("e;l3c;k30d", 1, 2, 1, 2, 2);
            ran("e;k3c;l30d", 1, 2, 1, 2, 2);
        });
        s.of(Sentences.TERMS, "if it does, a LEAVING one does no more STEPS and nothing comes out of it,", () -> {
            ran("e;l0ab", 0, NONE, 1, 1, 0);
            ran("e;l0aaaa", 0, NONE, 1, 1, 0);
            ran("e;l3d", 0, NONE, 1, 1, 0);
            ran("e;p0b;l10a", 1, NONE, 1, 2, 0);
            // the one that called it goes on
            ran("e;l0ab;p00c", 1, 2, 2, 2, 1);
        });
        s.of(Sentences.TERMS, "a KEEPING one goes on with its next STEP.", () -> {
            ran("e;k0ab", 0, 1, 2, 1, 1);
            ran("e;k0aaaa", 0, NONE, 4, 1, 0);
            ran("e;k3d", 0, NONE, 1, 1, 0);
            ran("e;p0b;k1000a", 1, 0, 4, 4, 1);
        });
    }

    private void ends() {
        s.of(Sentences.TERMS, "Behind a FUNCTION, whichever way it ends, its FINISHING PART is done once.", () -> {
            ran("e;p0", 0, NONE, 0, 1, 0);
            ran("e;p0a", 0, 0, 1, 1, 1);
            ran("e;l0ab", 0, NONE, 1, 1, 0);
            ran("e;k0aaaa", 0, NONE, 4, 1, 0);
            // called twice, done twice; what is not come to is not done
            ran("e;p0;p000", 1, NONE, 0, 3, 0);
            ran("e;p0a;p0000", 1, 0, 1, 2, 2);
            ran("e;p0;p0a0", 1, 0, 1, 1, 1);
            // the most there can be
            ran("e;k0aaaa;p00000;p01111;p02222;p03333", 4, NONE, 1024, 341, 0);
        });
    }

    private void pathIs(String text, int live, int f, int... functions) {
        ActRows x = Checks.with(text);
        x.live(live);
        s.due(text + " path of " + f, x.run(f, 3), functions.length);
        for (int k = 0; k < 5; k++) {
            s.due(text + " place " + k + " of " + f, x.path(f, k), k < functions.length ? functions[k] : NONE);
        }
    }

    private void pathTerm() {
        s.of(Sentences.TERMS, "PATH of what comes out of a FUNCTION: this, the one that it called from which it came, and so on, to the one whose own STEP PERFORMED it.", () -> {
            pathIs("e;p0", 15, 0);
            pathIs("e;p0a", 15, 0, 0);
            pathIs("e;p0a;p00;p01;p02;p03", 15, 4, 4, 3, 2, 1, 0);
            pathIs("e;p0a;p00;p00;p00;p00", 15, 4, 4, 0);
            // called and kept from is not on it
            pathIs("e;p0a;p0b;k001;p0200", 15, 3, 3, 2, 1);
            pathIs("e;p0a;k00b", 15, 1, 1);
            pathIs("e;p0a;l00b", 15, 1);
            pathIs("e;p0a;p0b;k001;p0200", 1, 3, 3, 0);
        });
    }

    private ActRows dayOf(String text, int... cells) {
        ActRows x = Checks.with(text);
        Checks.write(x, 1, 2, cells);
        return x;
    }

    private void day(String what, ActRows x, int n, int question, int want) {
        s.due(what, x.day(1, 2, 0, n, question), want);
    }

    private void dayTerms() {
        s.of(Sentences.TERMS, "A DAY told: a row of pairs, one behind another, from how all is now (nothing is changed):", () -> {
            ActRows x = dayOf("e;k0ab", 1, 5, 0, 0, 1, 6, 2, 5, 0, 0);
            x.live(14);
            x.guard(0, 3);
            day("no pairs: as all is now", x, 0, 3, 14);
            day("no pairs: guard", x, 0, 10, 3);
            day("pair behind pair", x, 1, 3, 1);
            day("the guard of now lets out", x, 2, 1, 1);
            x.guard(0, 0);
            day("all pairs", x, 5, 0, 2);
            s.due("live is as before", x.live(14), 14);
            s.due("guard is as before", x.ofFunction(0, 1), 0);
            s.due("no reading", x.many(4), 0);
            s.due("trace is as before", x.trace(), 0);
        });
        s.of(Sentences.TERMS, "a set of ACTS (0 .. 15) and 5: just these are LIVE;", () -> {
            for (int set = 0; set < 16; set++) {
                day("set " + set, dayOf("e;p0", set, 5), 1, 3, set);
            }
            day("the later one", dayOf("e;p0", 15, 5, 0, 5), 2, 3, 0);
            day("below", dayOf("e;p0", -1, 5), 1, 3, ActRows.OUTSIDE);
            day("above", dayOf("e;p0", 16, 5), 1, 3, ActRows.OUTSIDE);
        });
        s.of(Sentences.TERMS, "an ACT (0 .. 3) and 6 .. 10: the FUNCTION that is 6 less GUARDS against that;", () -> {
            for (int f = 0; f < 5; f++) {
                for (int act = 0; act < 4; act++) {
                    ActRows x = dayOf("e;l3;l3;l3;l3;l3", act, 6 + f);
                    for (int g = 0; g < 5; g++) {
                        day(f + " against " + act + ", " + g, x, 1, 10 + g, g == f ? act : 3);
                    }
                }
                day("below", dayOf("e;l3;l3;l3;l3;l3", -1, 6 + f), 1, 1, ActRows.OUTSIDE);
                day("above", dayOf("e;l3;l3;l3;l3;l3", 4, 6 + f), 1, 1, ActRows.OUTSIDE);
            }
        });
        s.of(Sentences.TERMS, "0 and 0 .. 4: RUN of that FUNCTION.", () -> {
            for (int f = 0; f < 5; f++) {
                day("ends of " + f, dayOf("e;p0;p00;p00000;p0002;p01111", 0, f), 1, 2, new int[] {1, 2, 5, 8, 9}[f]);
                day("not 0 with " + f, dayOf("e;p0;p0;p0;p0;p0", 1, f), 1, 1, ActRows.OUTSIDE);
                day("below 0 with " + f, dayOf("e;p0;p0;p0;p0;p0", -1, f), 1, 1, ActRows.OUTSIDE);
            }
        });
        s.of(Sentences.TERMS, "FIRST WRONG: the first act that can't be (there is no such FUNCTION),", () -> {
            for (int f = 0; f < 5; f++) {
                day("run of " + f, dayOf("e;p0;p0", 0, f), 1, 1, f < 2 ? NONE : 0);
                day("guard of " + f, dayOf("e;p0;p0", 0, 6 + f), 1, 1, f < 2 ? NONE : 0);
            }
            day("the first of two", dayOf("e;p0", 0, 0, 3, 7, 0, 4), 3, 1, 1);
        });
        s.of(Sentences.TERMS, "or a RUN from which anything comes out.", () -> {
            for (int act = 0; act < 4; act++) {
                day("act " + act, dayOf("e;p0;p0" + "abcd".charAt(act), 0, 0, 0, 1, 0, 1), 3, 1, 1);
            }
            day("what is kept does not come out", dayOf("e;k0aa;l1b", 0, 0, 0, 1), 2, 1, NONE);
        });
    }

    private void run() {
        s.of("8", "A RUN of a FUNCTION: the ACT that comes out (what 0; NONE: nothing),", () -> {
            ActRows x = Checks.with("e;p0a;p0b;p0c;p0d;p0");
            for (int f = 0; f < 5; f++) {
                s.due("out of " + f, x.run(f, 0), f < 4 ? f : NONE);
            }
        });
        s.of("8", "how many ACTS are PERFORMED in it (1),", () -> {
            ActRows x = Checks.with("e;p0;k0aaaa;k01111;k02222;k03333");
            int[] due = {0, 4, 16, 64, 256};
            for (int f = 0; f < 5; f++) {
                s.due("in " + f, x.run(f, 1), due[f]);
            }
        });
        s.of("8", "how many FINISHING PARTS are done (2),", () -> {
            ActRows x = Checks.with("e;p0;p00000;p01111;p02222;p03333");
            int[] due = {1, 5, 21, 85, 341};
            for (int f = 0; f < 5; f++) {
                s.due("in " + f, x.run(f, 2), due[f]);
            }
        });
        s.of("8", "how many FUNCTIONS there are in the PATH (3; 0: nothing comes out).", () -> {
            ActRows x = Checks.with("e;p0a;p00;p01;p02;p03");
            for (int f = 0; f < 5; f++) {
                s.due("of " + f, x.run(f, 3), f + 1);
            }
            x.live(14);
            for (int f = 0; f < 5; f++) {
                s.due("nothing comes out of " + f, x.run(f, 3), 0);
            }
        });
        s.of("8", "UNKNOWN;", () -> {
            s.refusedFor(ActRows.UNKNOWN, (x, f) -> x.run(f, 0), -1, 3, 5, LEAST, MOST);
            s.due("without a program", new ActRows().run(0, 0), ActRows.UNKNOWN);
        });
        s.of("8", "OUTSIDE.", () ->
            s.refusedFor(ActRows.OUTSIDE, (x, what) -> x.run(0, what), -1, 4, LEAST, MOST));
    }

    private void performed() {
        s.of("9", "The k-th (from 0 on) ACT that is PERFORMED in a RUN of a FUNCTION;", () -> {
            acts("e;k0abcd", 15, 0, 0, 1);
            acts("e;k3dddc", 15, 0, 3, 3, 3, 2);
            acts("e;k0aba;l1c0b;k10da1;k32201", 15, 3, 0, 1, 3, 0, 1, 3, 0, 1);
            s.due("the last of the most", Checks.with("e;k0aaaa;p00000;p01111;p02222;p03333").performed(4, 1023), 0);
        });
        s.of("9", "NONE: there are not so many.", () -> {
            ActRows x = Checks.with("e;p0a;p0;k0aaaa;p02222;p03333");
            s.each("of one", NONE, (y, k) -> y.performed(0, k), x, 1, 2, MOST);
            s.each("of none", NONE, (y, k) -> y.performed(1, k), x, 0, 1, MOST);
            s.each("of 64", NONE, (y, k) -> y.performed(4, k), x, 64, 65, MOST);
            s.due("the last of 64", x.performed(4, 63), 0);
        });
        s.of("9", "UNKNOWN;", () -> {
            s.refusedFor(ActRows.UNKNOWN, (x, f) -> x.performed(f, 0), -1, 3, 5, LEAST, MOST);
            s.due("without a program", new ActRows().performed(0, 0), ActRows.UNKNOWN);
        });
        s.of("9", "OUTSIDE: k below 0.", () -> {
            s.refusedFor(ActRows.OUTSIDE, (x, k) -> x.performed(0, k), -1, -2, LEAST);
            s.due("0 is not below", Fixture.made().performed(0, 0), 0);
        });
    }

    private void path() {
        s.of("10", "The FUNCTION in place k (0 .. 4) of the PATH;", () -> {
            pathIs("e;p0d;p00;p01;p02;p03", 15, 4, 4, 3, 2, 1, 0);
            pathIs("e;p0d;p00;p01;p02;p03", 8, 2, 2, 1, 0);
        });
        s.of("10", "NONE: there are not so many.", () -> {
            ActRows x = Checks.with("e;p0a;p0;l00;p00");
            s.each("of one", NONE, (y, k) -> y.path(0, k), x, 1, 2, 3, 4);
            s.each("of none", NONE, (y, k) -> y.path(1, k), x, 0, 1, 2, 3, 4);
            s.each("of one that left off", NONE, (y, k) -> y.path(2, k), x, 0, 1, 2, 3, 4);
            s.each("of two", NONE, (y, k) -> y.path(3, k), x, 2, 3, 4);
        });
        s.of("10", "UNKNOWN;", () -> {
            s.refusedFor(ActRows.UNKNOWN, (x, f) -> x.path(f, 0), -1, 3, 5, LEAST, MOST);
            s.due("without a program", new ActRows().path(0, 0), ActRows.UNKNOWN);
        });
        s.of("10", "OUTSIDE.", () ->
            s.refusedFor(ActRows.OUTSIDE, (x, k) -> x.path(0, k), -1, 5, LEAST, MOST));
    }

    private void dayAnswers() {
        s.of("11", "A DAY of n pairs, that are cells of a SHEET from i on (2 n):", () -> {
            for (int k = 0; k < 4; k++) {
                ActRows x = Checks.with("e;p0");
                int lane = k % 3;
                x.sheet(k, lane, 60);
                s.due("20 pairs at the end of " + k, x.day(k, lane, 20, 20, 2), 20);
                x.put(k, 58, 9);
                x.put(k, 59, 5);
                s.due("one pair at the end of " + k, x.day(k, lane, 58, 1, 3), 9);
                s.due("without the pair at the end of " + k, x.day(k, lane, 56, 1, 3), 15);
                s.due("no pair at the end of " + k, x.day(k, lane, 60, 0, 3), 15);
                // there a 0 and the 9: function 3, that there is not
                s.due("from an odd place of " + k, x.day(k, lane, 57, 1, 1), 0);
            }
        });
        s.of("11", "how many ACTS are PERFORMED in it (what 0),", () -> {
            ActRows x = dayOf("e;k0aaaa;p00000;p01111;p02222;p03333", 0, 4, 0, 4, 0, 5, 0, 4);
            int[] due = {0, 1024, 2048, 2048, 2048};
            for (int n = 0; n < due.length; n++) {
                day("of " + n, x, n, 0, due[n]);
            }
        });
        s.of("11", "its FIRST WRONG (1; NONE),", () -> {
            ActRows x = dayOf("e;l0a", 0, 0, 0, 0, 1, 6, 0, 0, 0, 4);
            int[] due = {NONE, NONE, NONE, NONE, 3, 3};
            for (int n = 0; n < due.length; n++) {
                day("of " + n, x, n, 1, due[n]);
            }
            int[] most = new int[40];
            most[39] = 4;
            day("the last of the most", dayOf("e;p0", most), 20, 1, 19);
        });
        s.of("11", "how many FINISHING PARTS are done in it (2),", () -> {
            ActRows x = dayOf("e;p0;p00000;p01111;p02222;p03333", 0, 4, 0, 0, 7, 5, 0, 1);
            int[] due = {0, 341, 342, 342, 347};
            for (int n = 0; n < due.length; n++) {
                day("of " + n, x, n, 2, due[n]);
            }
        });
    }

    private void dayThen() {
        s.of("11", "ACTS that are LIVE then, as a set (3),", () -> {
            ActRows x = dayOf("e;p0", 0, 5, 15, 5, 0, 0, 8, 5);
            x.live(6);
            int[] due = {6, 0, 15, 15, 8};
            for (int n = 0; n < due.length; n++) {
                day("of " + n, x, n, 3, due[n]);
            }
        });
        s.of("11", "ROWS of all FUNCTIONS then, together, as a set (4),", () -> {
            ActRows x = dayOf("e;l0a;k1b;p2c", 0, 5, 1, 6, 0, 7, 2, 8);
            int[] due = {4, 4, 5, 7, 7};
            for (int n = 0; n < due.length; n++) {
                day("of " + n, x, n, 4, due[n]);
            }
            day("no steps", dayOf("e;p0"), 0, 4, 0);
            day("of four", dayOf("e;p0a;p0;l1bc;k0cd"), 0, 4, 13);
            ActRows most = dayOf("e;p0;p0a;p0b;p0c;p0d");
            day("of the most", most, 0, 4, 15);
            Checks.take(most, "e;p0;p0b");
            day("of fewer, told behind them", most, 0, 4, 2);
        });
        s.of("11", "the ACT that FUNCTION f GUARDS against then (10 and f; NONE: there is no such FUNCTION);", () -> {
            ActRows x = dayOf("e;p0;l1;k2", 3, 6, 0, 8);
            int[][] due = {{0, 1, 2, NONE, NONE}, {3, 1, 2, NONE, NONE}, {3, 1, 0, NONE, NONE}};
            for (int n = 0; n < due.length; n++) {
                for (int f = 0; f < 5; f++) {
                    day("of " + n + ", " + f, x, n, 10 + f, due[n][f]);
                }
            }
        });
    }

    private void dayWrong() {
        s.of("11", "of one with a FIRST WRONG: -100 less that (but what 1).", () -> {
            int[] others = {0, 2, 3, 4, 10, 11, 12, 13, 14};
            ActRows first = dayOf("e;p0a", 0, 0, 3, 5);
            int[] cells = new int[40];
            cells[39] = 1;
            ActRows last = dayOf("e;p0", cells);
            for (int what : others) {
                day("the first, asked " + what, first, 2, what, -100);
                day("the last, asked " + what, last, 20, what, -119);
            }
            day("the first, which", first, 2, 1, 0);
            day("the last, which", last, 20, 1, 19);
            s.due("it is no fault", last.fault(), 0);
        });
    }

    private void dayRefusals() {
        s.of("11", "UNKNOWN: SHEET;", () ->
            s.refusedFor(ActRows.UNKNOWN, (x, k) -> x.day(k, 0, 0, 0, 0), -1, 4, LEAST, MOST));
        s.of("11", "OUTSIDE: lane,", () ->
            s.refusedFor(ActRows.OUTSIDE, (x, lane) -> x.day(0, lane, 0, 0, 0), -1, 3, LEAST, MOST));
        s.of("11", "n (0 .. 20),", () -> {
            s.refusedFor(ActRows.OUTSIDE, (x, n) -> x.day(0, 0, 0, n, 0), -1, 21, LEAST, MOST, 1 << 30, 1 << 31);
            s.due("none", Fixture.made().day(0, 0, 0, 0, 1), NONE);
            s.due("20 are beyond the row, not outside", Fixture.made().day(0, 0, 0, 20, 0), -13);
        });
        s.of("11", "what (0 .. 4, 10 .. 14);", () -> {
            s.refusedFor(ActRows.OUTSIDE, (x, what) -> x.day(0, 0, 0, 0, what), -1, 5, 6, 9, 15, LEAST, MOST);
            ActRows x = Fixture.made();
            int[] whats = {0, 1, 2, 3, 4, 10, 11, 12, 13, 14};
            int[] due = {0, NONE, 0, 7, 9, 0, 1, 2, NONE, NONE};
            for (int k = 0; k < whats.length; k++) {
                s.due("what " + whats[k], x.day(0, 0, 0, 0, whats[k]), due[k]);
            }
        });
        s.of("11", "STATE: there is no PROGRAM;", () -> {
            ActRows x = new ActRows();
            x.sheet(0, 0, 2);
            x.put(0, 9, 9);
            s.each("what", ActRows.STATE, (y, what) -> y.day(0, 0, 0, 1, what), x, 0, 1, 2, 3, 4, 10, 14);
            s.due("no fault", x.fault(), 0);
        });
    }

    private void dayFaults() {
        s.of("11", "CAST;", () -> s.faulted(2, x -> x.day(0, 1, 0, 2, 0), x -> x.day(0, 2, 0, 0, 0),
            x -> x.day(1, 0, 0, 0, 0), x -> x.day(1, 2, 9, 0, 0), x -> x.day(2, 0, 0, 0, 0), x -> x.day(2, 1, 0, 0, 0)));
        s.of("11", "NULL;", () -> s.faulted(1, x -> x.day(3, 0, 0, 0, 0), x -> x.day(3, 1, 0, 20, 14),
            x -> x.day(3, 2, -1, 0, 1)));
        s.of("11", "INDEX;", () -> {
            s.faulted(3, x -> x.day(0, 0, -1, 0, 0), x -> x.day(0, 0, 5, 0, 0), x -> x.day(0, 0, 3, 1, 0),
                x -> x.day(0, 0, 1, 2, 0), x -> x.day(0, 0, 0, 3, 0), x -> x.day(0, 0, MOST, 20, 0),
                x -> x.day(0, 0, MOST, 0, 0), x -> x.day(0, 0, LEAST, 20, 0), x -> x.day(0, 0, -2, 1, 0));
            s.untouchedBy(x -> x.day(0, 0, 0, 2, 10), "both pairs", 1, 0);
            s.untouchedBy(x -> x.day(0, 0, 4, 0, 1), "none at the end", NONE, 0);
        });
    }

    private void dayPairs() {
        s.of("11", "pair by pair OUTSIDE: the second is not 0 .. 10,", () -> {
            for (int second : new int[] {-1, 11, 16, LEAST, MOST}) {
                ActRows x = dayOf("e;p0a", 15, 5, 0, second);
                s.each("asked", ActRows.OUTSIDE, (y, what) -> y.day(1, 2, 0, 2, what), x, 0, 1, 2, 3, 4, 10, 14);
                s.due("no fault", x.fault(), 0);
                day("not come to", x, 1, 1, NONE);
            }
            ActRows x = dayOf("e;p0a", 0, 0, 0, 11);
            day("the wrong one alone", x, 1, 0, -100);
            day("behind a wrong one", x, 2, 0, ActRows.OUTSIDE);
            day("behind a wrong one, which", x, 2, 1, ActRows.OUTSIDE);
            s.refused(ActRows.OUTSIDE, y -> y.day(2, 2, 0, 1, 0), y -> y.day(2, 2, 1, 1, 1));
        });
        s.of("11", "the first is not as told with it.", () -> {
            for (int second = 0; second <= 10; second++) {
                int above = second < 5 ? 1 : second == 5 ? 16 : 4;
                for (int first : new int[] {-1, above, LEAST, MOST}) {
                    day(first + " with " + second, dayOf("e;p0", first, second), 1, 1, ActRows.OUTSIDE);
                }
                boolean can = second == 0 || second == 5 || second == 6;
                day("least with " + second, dayOf("e;p0", 0, second), 1, 1, can ? NONE : 0);
                day("most with " + second, dayOf("e;p0", above - 1, second), 1, 1, can ? NONE : 0);
            }
            day("behind a wrong one", dayOf("e;p0", 0, 1, 1, 0), 2, 0, ActRows.OUTSIDE);
        });
    }

    private void dayOrder() {
        s.of("11", "UNKNOWN: SHEET; OUTSIDE: lane, n (0 .. 20), what (0 .. 4, 10 .. 14); STATE: there is no PROGRAM; CAST; NULL; INDEX; pair by pair OUTSIDE: the second is not 0 .. 10, the first is not as told with it.", () -> {
            ActRows none = new ActRows();
            none.sheet(1, 1, 2);
            none.put(1, 1, 11);
            s.due("UNKNOWN, lane", none.day(4, 3, 0, 0, 0), ActRows.UNKNOWN);
            s.due("UNKNOWN, n", none.day(-1, 0, 0, 21, 0), ActRows.UNKNOWN);
            s.due("UNKNOWN, what", none.day(4, 0, 0, 0, 5), ActRows.UNKNOWN);
            s.due("UNKNOWN, STATE", none.day(4, 0, 0, 0, 0), ActRows.UNKNOWN);
            s.due("lane, STATE", none.day(1, 3, 0, 0, 0), ActRows.OUTSIDE);
            s.due("n, STATE", none.day(1, 1, 0, 21, 0), ActRows.OUTSIDE);
            s.due("what, STATE", none.day(1, 1, 0, 0, 5), ActRows.OUTSIDE);
            s.due("STATE, CAST", none.day(1, 0, 0, 0, 0), ActRows.STATE);
            s.due("STATE, NULL", none.day(0, 0, 0, 0, 0), ActRows.STATE);
            s.due("STATE, INDEX", none.day(1, 1, -1, 0, 0), ActRows.STATE);
            s.due("STATE, pair", none.day(1, 1, 0, 1, 0), ActRows.STATE);
            ActRows x = Fixture.made();
            s.due("n, NULL", x.day(3, 0, 0, -1, 0), ActRows.OUTSIDE);
            s.due("what, CAST", x.day(1, 0, 0, 0, 9), ActRows.OUTSIDE);
            s.due("CAST, INDEX", x.day(1, 0, -1, 0, 0), -12);
            s.due("NULL, INDEX", x.day(3, 0, -1, 0, 0), -11);
            s.due("INDEX, pair", x.day(2, 2, 0, 2, 0), -13);
            s.due("pair", x.day(2, 2, 0, 1, 0), ActRows.OUTSIDE);
        });
    }
}
