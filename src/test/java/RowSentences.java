/** The document's terms under 3 and the promises 12 to 15: rows. */
final class RowSentences {
    private static final int LEAST = Integer.MIN_VALUE;
    private static final int MOST = Integer.MAX_VALUE;
    private static final int NONE = ActRows.NONE;

    private final Sentences s;

    RowSentences(Sentences s) {
        this.s = s;
    }

    void tell() {
        rowsAndMays();
        witnessAndFreeTerms();
        plugsTerms();
        witness();
        free();
        plugs();
        more();
    }

    private void sets(String text, int what, int... due) {
        ActRows x = Checks.with(text);
        for (int f = 0; f < due.length; f++) {
            s.due(text + " " + f, x.ofFunction(f, what), due[f]);
        }
        x.live(0);
        s.due(text + " whatever is live", x.ofFunction(due.length - 1, what), due[due.length - 1]);
    }

    private void rowsAndMays() {
        s.of(Sentences.TERMS, "ROW of a FUNCTION: the ACTS of its STEPS, and those of the ROWS of the FUNCTIONS that it calls, all together,", () -> {
            sets("e;p0", 3, 0);
            sets("e;p0dddd", 3, 8);
            sets("e;p0abcd", 3, 15);
            sets("e;p0a;p0b;p0c;p0d;p00123", 3, 1, 2, 4, 8, 15);
            sets("e;p0a;p00b;p01c;p02d;p03", 3, 1, 3, 7, 15, 15);
            // one that is not called adds nothing
            sets("e;p0a;p0b", 3, 1, 2);
        });
        s.of(Sentences.TERMS, "without the one that a LEAVING or KEEPING one GUARDS against.", () -> {
            for (int act = 0; act < 4; act++) {
                sets("e;p" + act + "abcd;l" + act + "abcd;k" + act + "0", 3, 15, 15 - (1 << act), 15 - (1 << act));
            }
            // what is guarded against in a called one comes by another step
            sets("e;l0ab;p00a", 3, 2, 3);
            // all that stands behind the step counts, of a leaving one, too
            sets("e;l0abcd", 3, 14);
            sets("e;l0aaaa;k3d", 3, 0, 0);
        });
        s.of(Sentences.TERMS, "MAY of a FUNCTION: all ACTS each of which comes out of it by some set of LIVE ACTS.", () -> {
            sets("e;p0", 4, 0);
            sets("e;p0abcd;l0abcd;k30;l2d", 4, 15, 14, 7, 8);
            sets("e;l0aaaa;k3d", 4, 0, 0);
            // not by what is live now: a alone comes out then
            sets("e;p0abcd", 4, 15);
        });
    }

    private void witnessAndFreeTerms() {
        s.of(Sentences.TERMS, "WITNESS of a FUNCTION and an ACT: the least set of LIVE ACTS (as bits) by which it comes out of it.", () -> {
            ActRows x = Checks.with("e;p0abcd;p00;l00");
            x.live(0);
            for (int act = 0; act < 4; act++) {
                s.due("alone " + act, x.witness(0, act), 1 << act);
                s.due("by a called one " + act, x.witness(1, act), 1 << act);
                s.due("guarded against " + act, x.witness(2, act), act == 0 ? NONE : 1 << act);
            }
            s.due("live is as before", x.live(0), 0);
        });
        s.of(Sentences.TERMS, "FREE of two FUNCTIONS: whether by each set of LIVE ACTS the same comes first out of the one RUN behind the other, whichever is first (nothing, too).", () -> {
            ActRows x = Checks.with("e;p0a;p0b;p0;l0ab;p0ba");
            s.due("nothing, nothing", x.free(2, 2), 1);
            s.due("nothing, an act", x.free(2, 0), 1);
            s.due("an act, nothing", x.free(0, 2), 1);
            s.due("the same act", x.free(0, 0), 1);
            s.due("two acts", x.free(0, 1), 0);
            s.due("two acts, turned", x.free(1, 0), 0);
            s.due("two acts, never by one set", x.free(0, 3), 1);
            s.due("by one set alone unlike", x.free(0, 4), 0);
            x.live(0);
            s.due("not by what is live", x.free(0, 1), 0);
            s.due("live is as before", x.live(0), 0);
        });
    }

    private void plugsOf(String text, int live, int f, int want) {
        ActRows x = Checks.with(text);
        x.live(live);
        s.due(text + " by " + live + ", " + f, x.plugs(f), want);
    }

    private void plugsTerms() {
        s.of(Sentences.TERMS, "PLUGS of a FUNCTION: the fewest FUNCTIONS that must become KEEPING ones (each with any ACT to GUARD against), so that nothing comes out of it, by what is LIVE now;", () -> {
            plugsOf("e;p0", 15, 0, 0);
            plugsOf("e;l0ab", 15, 0, 0);
            plugsOf("e;k0aaaa", 15, 0, 0);
            for (int act = 0; act < 4; act++) {
                plugsOf("e;p0" + "abcd".charAt(act), 15, 0, 1);
                plugsOf("e;l0" + "bcda".charAt(act) + "bcda".charAt(act), 14, 0, act == 3 ? 0 : 1);
                plugsOf("e;p0abcd", 1 << act, 0, 1);
            }
            plugsOf("e;p0abcd", 0, 0, 0);
            // the called one, or this
            plugsOf("e;p0a;p00a", 15, 1, 1);
            plugsOf("e;p0a;p00b", 15, 1, 2);
            plugsOf("e;p0a;p0b;p0c;p0d;p00123", 15, 4, 4);
            plugsOf("e;p0a;p0b;p0c;p0d;p00123", 7, 4, 3);
            // each has an act of its own that those that call it can't keep behind, too
            plugsOf("e;p0b;p0c;p001d;p0b;p023a", 15, 4, 5);
            // functions that are not called do not count
            plugsOf("e;p0a;p0b;p0c", 15, 2, 1);
            // kept behind one act, so that another comes out at which the one that calls leaves off
            plugsOf("e;p0ba;l00c", 15, 1, 1);
            plugsOf("e;l1bc;l20ad", 15, 1, 1);
            // a guard of a keeping one that is turned
            plugsOf("e;k1a", 15, 0, 1);
        });
        s.of(Sentences.TERMS, "NONE: by none.", () -> {
            plugsOf("e;p0ab", 15, 0, NONE);
            plugsOf("e;k0abb", 15, 0, NONE);
            plugsOf("e;p0ab", 2, 0, 1);
            plugsOf("e;p0ab;p00ab", 15, 1, NONE);
            plugsOf("e;p0abcd;p00abc;p01abc;p02abc;p03abc", 15, 4, NONE);
        });
    }

    private void witness() {
        s.of("12", "WITNESS, as a set; NONE.", () -> {
            ActRows x = Checks.with("e;k0abcd;p0;p3d");
            int[][] due = {{NONE, 2, 4, 8}, {NONE, NONE, NONE, NONE}, {NONE, NONE, NONE, 8}};
            for (int f = 0; f < 3; f++) {
                for (int act = 0; act < 4; act++) {
                    s.due(act + " of " + f, x.witness(f, act), due[f][act]);
                }
            }
        });
        s.of("12", "UNKNOWN;", () -> {
            s.refusedFor(ActRows.UNKNOWN, (x, f) -> x.witness(f, 0), -1, 3, 5, LEAST, MOST);
            s.due("without a program", new ActRows().witness(0, 0), ActRows.UNKNOWN);
        });
        s.of("12", "OUTSIDE: act (0 .. 3).", () ->
            s.refusedFor(ActRows.OUTSIDE, (x, act) -> x.witness(0, act), -1, 4, LEAST, MOST));
    }

    private void free() {
        s.of("13", "FREE: 1, 0.", () -> {
            ActRows x = Checks.with("e;p0abcd;p0dcba;p0abcd;p0;p0d");
            int[][] due = {{1, 0, 1, 1, 0}, {0, 1, 0, 1, 1}, {1, 0, 1, 1, 0}, {1, 1, 1, 1, 1}, {0, 1, 0, 1, 1}};
            for (int f = 0; f < 5; f++) {
                for (int g = 0; g < 5; g++) {
                    s.due(f + " and " + g, x.free(f, g), due[f][g]);
                }
            }
        });
        s.of("13", "UNKNOWN: either.", () -> {
            s.refusedFor(ActRows.UNKNOWN, (x, f) -> x.free(f, 0), -1, 3, 5, LEAST, MOST);
            s.refusedFor(ActRows.UNKNOWN, (x, g) -> x.free(0, g), -1, 3, 5, LEAST, MOST);
            s.refused(ActRows.UNKNOWN, x -> x.free(3, 3), x -> x.free(-1, -1));
            s.due("without a program", new ActRows().free(0, 0), ActRows.UNKNOWN);
        });
    }

    private void plugs() {
        s.of("14", "PLUGS; NONE.", () -> {
            plugsOf("e;p0", 15, 0, 0);
            plugsOf("e;p0a;p00b;p01c;p02d;p03b", 15, 4, 2);
            plugsOf("e;p0ab", 15, 0, NONE);
            s.untouchedBy(x -> x.plugs(0), "one", 1, Fixture.PENDING);
            s.untouchedBy(x -> x.plugs(2), "one of three", 1, Fixture.PENDING);
        });
        s.of("14", "UNKNOWN.", () -> {
            s.refusedFor(ActRows.UNKNOWN, (x, f) -> x.plugs(f), -1, 3, 5, LEAST, MOST);
            s.due("without a program", new ActRows().plugs(0), ActRows.UNKNOWN);
        });
    }

    private void more() {
        s.of("15", "By how many sets of LIVE ACTS (0 .. 16 of them) something comes out of a FUNCTION, and something else, or nothing, out of another one.", () -> {
            ActRows x = Checks.with("e;p0abcd;p0;p0dcba;p0a;l0ab");
            s.due("the most: by each set but the empty one", x.more(0, 1), 15);
            s.due("nothing is not something", x.more(1, 0), 0);
            s.due("nothing, nothing", x.more(1, 1), 0);
            s.due("itself", x.more(0, 0), 0);
            // alike by the four sets of one act alone
            s.due("something else", x.more(0, 2), 11);
            s.due("a by both, else nothing", x.more(0, 3), 7);
            s.due("a by both", x.more(3, 0), 0);
            s.due("one act, or left off at it", x.more(3, 4), 8);
            s.due("left off", x.more(4, 3), 4);
            x.live(0);
            s.due("whatever is live", x.more(0, 1), 15);
            s.due("live is as before", x.live(0), 0);
        });
        s.of("15", "UNKNOWN: either.", () -> {
            s.refusedFor(ActRows.UNKNOWN, (x, f) -> x.more(f, 0), -1, 3, 5, LEAST, MOST);
            s.refusedFor(ActRows.UNKNOWN, (x, g) -> x.more(0, g), -1, 3, 5, LEAST, MOST);
            s.refused(ActRows.UNKNOWN, x -> x.more(3, 3), x -> x.more(-1, -1));
            s.due("without a program", new ActRows().more(0, 0), ActRows.UNKNOWN);
        });
    }
}
