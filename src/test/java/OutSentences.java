/** The document's terms under 4 and the promises 16 to 21: what came out. */
final class OutSentences {
    private static final int LEAST = Integer.MIN_VALUE;
    private static final int MOST = Integer.MAX_VALUE;

    private final Sentences s;

    OutSentences(Sentences s) {
        this.s = s;
    }

    void tell() {
        readingTerms();
        foundTerms();
        reading();
        back();
        kinds();
        guards();
        lives();
        odds();
    }

    private void readingTerms() {
        s.of(Sentences.TERMS, "READINGS, 8 at most, numbered by how many there are:", () -> {
            ActRows x = Checks.with("e;p0a");
            for (int k = 0; k < 8; k++) {
                s.due("number " + k, x.reading(0, k % 5), k);
                s.due("how many", x.many(4), k + 1);
            }
            s.due("no ninth", x.reading(0, 0), ActRows.FULL);
            x.back(1);
            s.due("the eighth again", x.reading(0, 0), 7);
            s.due("no ninth again", x.reading(0, 0), ActRows.FULL);
        });
        s.of(Sentences.TERMS, "of a RUN of a FUNCTION, as all is now, an ACT comes out, or nothing (4).", () -> {
            ActRows x = Checks.with("e;p0abcd;p0");
            int[] due = {0xAAAA, 0x4444, 0x1010, 0x0100, 0x0001};
            for (int out = 0; out <= 4; out++) {
                x.reading(0, out);
                s.due("lives by " + out, x.lives(), due[out]);
                x.back(1);
                x.reading(1, out);
                s.due("lives by " + out + " of one without steps", x.lives(), out == 4 ? 0xFFFF : 0);
                x.back(1);
            }
            x.reading(0, 0);
            x.patch(0, 0, 3);
            s.due("by a step told anew", x.lives(), 0);
        });
    }

    private void foundTerms() {
        s.of(Sentences.TERMS, "All that follows: in place of what it is alone, by which all READINGS are so:", () -> {
            ActRows x = Checks.with("e;p0ab;l3ab");
            s.due("no readings: each kind", x.kinds(0), 7);
            s.due("no readings: each act", x.guards(0), 15);
            s.due("no readings: each set", x.lives(), 0xFFFF);
            x.reading(0, 1);
            // a keeping one that guards against a: just the guard of 0, or its kind, is turned
            s.due("the kind alone", x.kinds(0), 4);
            s.due("the guard alone", x.guards(0), 0);
            s.due("the kind of another one", x.kinds(1), 0);
            x.reading(1, 4);
            s.due("both readings: kind", x.kinds(0), 0);
            s.due("both readings: set", x.lives(), 0);
            x.back(1);
            s.due("the first alone again", x.kinds(0), 4);
        });
        s.of(Sentences.TERMS, "KINDS of a FUNCTION: 0 .. 2;", () -> {
            ActRows x = Checks.with("e;k0ab");
            int[] due = {1, 4, 0, 0, 2};
            for (int out = 0; out <= 4; out++) {
                x.reading(0, out);
                s.due("by " + out, x.kinds(0), due[out]);
                x.back(1);
            }
            s.due("all", x.kinds(0), 7);
        });
        s.of(Sentences.TERMS, "GUARDS of a FUNCTION: ACTS 0 .. 3;", () -> {
            ActRows x = Checks.with("e;l0abcd");
            int[] due = {14, 0, 0, 0, 1};
            for (int out = 0; out <= 4; out++) {
                x.reading(0, out);
                s.due("by " + out, x.guards(0), due[out]);
                x.back(1);
            }
            x.live(8);
            x.reading(0, 4);
            s.due("the last act", x.guards(0), 8);
        });
        s.of(Sentences.TERMS, "LIVES: sets 0 .. 15 of ACTS that are LIVE; as sets.", () -> {
            for (int set = 0; set < 16; set++) {
                ActRows x = Checks.with("e;p0a;p0b;p0c;p0d");
                for (int act = 0; act < 4; act++) {
                    x.reading(act, (set >> act & 1) == 1 ? act : 4);
                }
                s.due("just " + set, x.lives(), 1 << set);
            }
        });
        s.of(Sentences.TERMS, "ODDS of a FUNCTION and an ACT, or nothing (4): of all sets of LIVE ACTS, all alike, the share by which that comes out of it.", () -> {
            ActRows x = Checks.with("e;p0abcd");
            int[] lower = {2, 4, 8, 16, 16};
            for (int out = 0; out <= 4; out++) {
                s.due("upper of " + out, x.odds(0, out, 0), 1);
                s.due("lower of " + out, x.odds(0, out, 1), lower[out]);
            }
            x.live(0);
            s.due("whatever is live", x.odds(0, 0, 1), 2);
            s.due("live is as before", x.live(0), 0);
        });
    }

    private void reading() {
        s.of("16", "A READING: its number.", () -> {
            ActRows x = Checks.with("e;p0;p0;p0;p0;p0");
            for (int k = 0; k < 8; k++) {
                s.due("of function " + k % 5, x.reading(k % 5, k % 5), k);
            }
        });
        s.of("16", "UNKNOWN;", () -> {
            s.refusedFor(ActRows.UNKNOWN, (x, f) -> x.reading(f, 0), -1, 3, 5, LEAST, MOST);
            s.due("without a program", new ActRows().reading(0, 0), ActRows.UNKNOWN);
        });
        s.of("16", "OUTSIDE: out (0 .. 4);", () -> {
            s.refusedFor(ActRows.OUTSIDE, (x, out) -> x.reading(0, out), -1, 5, LEAST, MOST);
            s.due("least", Fixture.made().reading(0, 0), 2);
            s.due("most", Fixture.made().reading(0, 4), 2);
        });
        s.of("16", "FULL.", () -> {
            ActRows x = Checks.with("e;p0a;p0b");
            for (int k = 0; k < 7; k++) {
                x.reading(0, 0);
            }
            s.due("the eighth", x.reading(0, 0), 7);
            s.due("a ninth", x.reading(1, 4), ActRows.FULL);
            s.due("a tenth", x.reading(1, 4), ActRows.FULL);
            s.due("nothing is changed", x.lives(), 0xAAAA);
            s.due("eight", x.many(4), 8);
        });
    }

    private void back() {
        s.of("17", "The last k READINGS (0 .. as many as there are) are taken back: how many are left.", () -> {
            ActRows x = Checks.with("e;p0a;p0b");
            s.due("none of none", x.back(0), 0);
            for (int k = 0; k < 8; k++) {
                x.reading(k / 4, k / 4);
            }
            s.due("none of eight", x.back(0), 8);
            s.due("four of eight", x.back(4), 4);
            s.due("the first four are left", x.lives(), 0xAAAA);
            s.due("one of four", x.back(1), 3);
            s.due("all of three", x.back(3), 0);
            s.due("none are left", x.lives(), 0xFFFF);
            s.due("none of none again", x.back(0), 0);
        });
        s.of("17", "OUTSIDE.", () -> {
            s.refusedFor(ActRows.OUTSIDE, (x, k) -> x.back(k), -1, 3, LEAST, MOST);
            s.due("one of none", Checks.with("e;p0").back(1), ActRows.OUTSIDE);
            s.due("without a program", new ActRows().back(1), ActRows.OUTSIDE);
            s.due("none, without a program", new ActRows().back(0), 0);
        });
    }

    private void kinds() {
        s.of("18", "KINDS, as a set.", () -> {
            ActRows x = Checks.with("e;l0ab;p00c");
            s.due("all", x.kinds(1), 7);
            x.reading(1, 2);
            s.due("by the one that calls it", x.kinds(0), 2);
            s.due("of the one that calls", x.kinds(1), 7);
            x.reading(1, 3);
            s.due("none", x.kinds(0), 0);
            s.due("kind is as before", x.ofFunction(0, 0), 1);
        });
        s.of("18", "UNKNOWN.", () -> {
            s.refusedFor(ActRows.UNKNOWN, (x, f) -> x.kinds(f), -1, 3, 5, LEAST, MOST);
            s.due("without a program", new ActRows().kinds(0), ActRows.UNKNOWN);
        });
    }

    private void guards() {
        s.of("19", "GUARDS, as a set.", () -> {
            ActRows x = Checks.with("e;k0abcd;p00;p0a");
            s.due("all", x.guards(0), 15);
            x.reading(1, 0);
            s.due("by the one that calls it", x.guards(0), 14);
            s.due("of a plain one that calls it", x.guards(1), 0);
            x.back(1);
            x.reading(1, 1);
            s.due("against a", x.guards(0), 1);
            s.due("of a plain one", x.guards(2), 15);
            x.reading(1, 2);
            s.due("none", x.guards(0), 0);
            s.due("guard is as before", x.ofFunction(0, 1), 0);
        });
        s.of("19", "UNKNOWN.", () -> {
            s.refusedFor(ActRows.UNKNOWN, (x, f) -> x.guards(f), -1, 3, 5, LEAST, MOST);
            s.due("without a program", new ActRows().guards(0), ActRows.UNKNOWN);
        });
    }

    private void lives() {
        s.of("20", "LIVES, as a set (of sets).", () -> {
            ActRows x = Checks.with("e;p0abcd;p0");
            s.due("all", x.lives(), 0xFFFF);
            x.reading(0, 4);
            s.due("just the empty set", x.lives(), 1);
            x.reading(0, 0);
            s.due("none", x.lives(), 0);
            x.back(2);
            x.live(0);
            s.due("whatever is live", x.lives(), 0xFFFF);
            s.due("live is as before", x.live(0), 0);
            ActRows y = Checks.with("e;p0abcd;p0bcd;p0cd;p0d");
            for (int f = 0; f < 4; f++) {
                y.reading(f, f);
            }
            s.due("just the full set", y.lives(), 1 << 15);
        });
        s.of("20", "STATE: there is no PROGRAM.", () -> {
            ActRows x = new ActRows();
            s.due("a new object", x.lives(), ActRows.STATE);
            Checks.take(x, "e;");
            s.due("a text with a fault is no program", x.lives(), ActRows.STATE);
            Checks.take(x, "e;p0");
            s.due("the least program", x.lives(), 0xFFFF);
        });
    }

    private void odds() {
        s.of("21", "ODDS of what comes out (0 .. 4; which 0 the upper, 1 the lower number).", () -> {
            ActRows x = Checks.with("e;k0abcd;p0;l1ab");
            int[][] uppers = {{0, 1, 1, 1, 1}, {0, 0, 0, 0, 1}, {1, 0, 0, 0, 1}};
            int[][] lowers = {{1, 2, 4, 8, 8}, {1, 1, 1, 1, 1}, {2, 1, 1, 1, 2}};
            for (int f = 0; f < 3; f++) {
                for (int out = 0; out <= 4; out++) {
                    s.due("upper, " + out + " of " + f, x.odds(f, out, 0), uppers[f][out]);
                    s.due("lower, " + out + " of " + f, x.odds(f, out, 1), lowers[f][out]);
                }
            }
            // 3 of 4, 7 of 8: by sets that leave off
            ActRows y = Checks.with("e;l0ab;k0a;l0acb;l00ad");
            s.due("upper of 3 of 4", y.odds(0, 4, 0), 3);
            s.due("lower of 3 of 4", y.odds(0, 4, 1), 4);
            s.due("upper of 1 of 4", y.odds(0, 1, 0), 1);
            s.due("upper of 5 of 8", y.odds(2, 4, 0), 5);
            s.due("lower of 5 of 8", y.odds(2, 4, 1), 8);
        });
        s.of("21", "LOST: UNKNOWN;", () -> {
            s.refusedFor(ActRows.LOST, (x, f) -> x.odds(f, 0, 0), -1, 3, 5, LEAST, MOST);
            s.due("without a program", new ActRows().odds(0, 4, 0), ActRows.LOST);
        });
        s.of("21", "OUTSIDE.", () -> {
            s.refusedFor(ActRows.LOST, (x, out) -> x.odds(0, out, 0), -1, 5, LEAST, MOST);
            s.refusedFor(ActRows.LOST, (x, which) -> x.odds(0, 0, which), -1, 2, LEAST, MOST);
        });
    }
}
