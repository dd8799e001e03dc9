/** The document's terms ahead of 1: refusals, faults, how sets and shares are told. */
final class TermSentences {
    private static final int LEAST = Integer.MIN_VALUE;
    private static final int MOST = Integer.MAX_VALUE;
    private static final int[] NO_FUNCTION = {-1, 3, 4, 5, LEAST, MOST};
    private static final int[] NO_SHEET = {-1, 4, LEAST, MOST};

    private final Sentences s;

    TermSentences(Sentences s) {
        this.s = s;
    }

    void tell() {
        use();
        unknown();
        outside();
        stateAndFull();
        order();
        changeNothing();
        faults();
        faultAnswers();
        howTold();
    }

    private void use() {
        s.of(Sentences.USE, "An object is used for at most 512 calls after it has been made; what later calls answer is free.", () -> {
            ActRows x = Checks.with("e;p0");
            int made = 9;
            int trace = 0;
            for (int call = made + 1; call < 512; call++) {
                x.name(0);
                trace = 31 * trace + 4;
            }
            s.due("the last call", x.trace(), trace);
        });
    }

    private void unknown() {
        s.of(Sentences.TERMS, "REFUSALS: UNKNOWN (there is no such FUNCTION, SHEET, place of a row)", () -> {
            Sentences.CallWith[] ofFunctions = {
                (x, f) -> x.ofFunction(f, 0), (x, f) -> x.step(f, 0), (x, f) -> x.patch(f, 0, 0),
                (x, f) -> x.guard(f, 0), (x, f) -> x.run(f, 0), (x, f) -> x.performed(f, 0),
                (x, f) -> x.path(f, 0), (x, f) -> x.witness(f, 0), (x, f) -> x.free(f, 0),
                (x, f) -> x.free(0, f), (x, f) -> x.plugs(f), (x, f) -> x.more(f, 0),
                (x, f) -> x.more(0, f), (x, f) -> x.reading(f, 0), (x, f) -> x.kinds(f),
                (x, f) -> x.guards(f), (x, f) -> x.tell(f), (x, f) -> x.name(f), (x, f) -> x.as(f, 0)
            };
            Sentences.CallWith[] ofSheets = {
                (x, k) -> x.program(k, 0, 0, 0), (x, k) -> x.day(k, 0, 0, 0, 0), (x, k) -> x.sheet(k, 0, 0),
                (x, k) -> x.lose(k), (x, k) -> x.put(k, 0, 0), (x, k) -> x.copy(k, 0, 0, 0, 0),
                (x, k) -> x.copy(0, 0, k, 0, 0)
            };
            ActRows x = Fixture.made();
            for (int call = 0; call < ofFunctions.length; call++) {
                s.each("function, call " + call, ActRows.UNKNOWN, ofFunctions[call], x, NO_FUNCTION);
            }
            for (int call = 0; call < ofSheets.length; call++) {
                s.each("sheet, call " + call, ActRows.UNKNOWN, ofSheets[call], x, NO_SHEET);
            }
            s.each("place of a step", ActRows.UNKNOWN, (y, i) -> y.step(0, i), x, -1, 1, 2, 3, LEAST, MOST);
            s.each("place to patch", ActRows.UNKNOWN, (y, i) -> y.patch(0, i, 0), x, -1, 1, 2, 3, LEAST, MOST);
        });
    }

    private void outside() {
        s.of(Sentences.TERMS, "OUTSIDE (another number is not as told)", () -> {
            ActRows x = Fixture.made();
            s.each("ofFunction", ActRows.OUTSIDE, (y, v) -> y.ofFunction(0, v), x, -1, 5, LEAST, MOST);
            s.each("guard", ActRows.OUTSIDE, (y, v) -> y.guard(0, v), x, -1, 4, LEAST, MOST);
            s.each("live", ActRows.OUTSIDE, (y, v) -> y.live(v), x, -1, 16, LEAST, MOST);
            s.each("run", ActRows.OUTSIDE, (y, v) -> y.run(0, v), x, -1, 4, LEAST, MOST);
            s.each("many", ActRows.OUTSIDE, (y, v) -> y.many(v), x, -1, 5, LEAST, MOST);
        });
    }

    private void stateAndFull() {
        s.of(Sentences.TERMS, "STATE (as told)", () -> {
            ActRows x = new ActRows();
            s.due("live", x.live(0), ActRows.STATE);
            s.due("lives", x.lives(), ActRows.STATE);
            s.due("day", x.day(0, 0, 0, 0, 0), ActRows.STATE);
        });
        s.of(Sentences.TERMS, "FULL;", () -> {
            ActRows x = Checks.with("e;p0");
            for (int k = 0; k < 8; k++) {
                s.due("reading " + k, x.reading(0, 4), k);
            }
            s.due("a ninth", x.reading(0, 4), ActRows.FULL);
            s.due("there are eight still", x.many(4), 8);
        });
    }

    private void order() {
        s.of(Sentences.TERMS, "of several the first in the order in which a call's line tells them.", () -> {
            ActRows x = Fixture.made();
            s.due("program: UNKNOWN, OUTSIDE", x.program(4, 3, -1, -1), ActRows.UNKNOWN);
            s.due("program: OUTSIDE, NULL", x.program(3, 3, -1, -1), ActRows.OUTSIDE);
            s.due("ofFunction", x.ofFunction(3, 5), ActRows.UNKNOWN);
            s.due("patch: UNKNOWN function, OUTSIDE", x.patch(3, 0, -1), ActRows.UNKNOWN);
            s.due("patch: UNKNOWN place, OUTSIDE", x.patch(0, 1, -1), ActRows.UNKNOWN);
            s.due("guard", x.guard(3, 4), ActRows.UNKNOWN);
            s.due("live", new ActRows().live(16), ActRows.OUTSIDE);
            s.due("run", x.run(3, 4), ActRows.UNKNOWN);
            s.due("performed", x.performed(3, -1), ActRows.UNKNOWN);
            s.due("path", x.path(3, 5), ActRows.UNKNOWN);
            s.due("witness", x.witness(3, 4), ActRows.UNKNOWN);
            s.due("sheet", x.sheet(4, 3, 61), ActRows.UNKNOWN);
            s.due("as", x.as(3, 3), ActRows.UNKNOWN);
            s.due("reading: UNKNOWN, OUTSIDE", x.reading(3, 5), ActRows.UNKNOWN);
            for (int k = 2; k < 8; k++) {
                x.reading(0, 0);
            }
            s.due("reading: OUTSIDE, FULL", x.reading(0, 5), ActRows.OUTSIDE);
            s.due("reading: UNKNOWN, FULL", x.reading(3, 0), ActRows.UNKNOWN);
        });
    }

    private void changeNothing() {
        s.of(Sentences.TERMS, "They change nothing (but fault(), of a call that names FAULTS).", () -> {
            int stays = Fixture.PENDING;
            s.untouchedBy(x -> x.ofFunction(0, 5), "ofFunction", ActRows.OUTSIDE, stays);
            s.untouchedBy(x -> x.patch(2, 0, 6), "patch", ActRows.OUTSIDE, stays);
            s.untouchedBy(x -> x.guard(0, 4), "guard", ActRows.OUTSIDE, stays);
            s.untouchedBy(x -> x.live(16), "live", ActRows.OUTSIDE, stays);
            s.untouchedBy(x -> x.reading(0, 5), "reading", ActRows.OUTSIDE, stays);
            s.untouchedBy(x -> x.back(3), "back", ActRows.OUTSIDE, stays);
            s.untouchedBy(x -> x.odds(3, 0, 0), "odds", ActRows.LOST, stays);
            s.untouchedBy(x -> x.lose(4), "lose", ActRows.UNKNOWN, stays);
            s.untouchedBy(x -> x.tell(3), "tell", ActRows.UNKNOWN, stays);
            s.untouchedBy(x -> x.name(3), "name", ActRows.UNKNOWN, stays);
            s.untouchedBy(x -> x.program(4, 0, 0, 0), "program", ActRows.UNKNOWN, 0);
            s.untouchedBy(x -> x.day(0, 0, 0, 21, 0), "day", ActRows.OUTSIDE, 0);
            s.untouchedBy(x -> x.sheet(0, 0, 61), "sheet", ActRows.OUTSIDE, 0);
            s.untouchedBy(x -> x.put(4, 0, 0), "put", ActRows.UNKNOWN, 0);
            s.untouchedBy(x -> x.cell(0, 0, 3), "cell", ActRows.LOST, 0);
            s.untouchedBy(x -> x.copy(0, 0, 4, 0, 0), "copy", ActRows.UNKNOWN, 0);
            s.untouchedBy(x -> x.as(0, 3), "as", ActRows.OUTSIDE, 0);
        });
    }

    private void faults() {
        s.of(Sentences.TERMS, "FAULTS are the machine's: 1 NULL (there is nothing)", () -> {
            s.untouchedBy(x -> x.program(3, 0, 0, 0), "program", -11, 1);
            s.untouchedBy(x -> x.day(3, 0, 0, 0, 0), "day", -11, 1);
            s.untouchedBy(x -> x.put(3, 0, 0), "put", -11, 1);
            s.untouchedBy(x -> x.cell(3, 0, 0), "cell", ActRows.LOST, 1);
            s.untouchedBy(x -> x.copy(3, 0, 0, 0, 0), "copy", -11, 1);
            ActRows x = Fixture.made();
            x.sheet(3, 0, 0);
            s.due("a row of none is no nothing", x.put(3, 0, 0), -13);
        });
        s.of(Sentences.TERMS, "2 CAST (it is of another LANE, kind)", () -> {
            s.untouchedBy(x -> x.program(1, 0, 0, 0), "program", -12, 2);
            s.untouchedBy(x -> x.day(1, 2, 0, 0, 0), "day", -12, 2);
            s.untouchedBy(x -> x.cell(1, 0, 2), "cell", ActRows.LOST, 2);
            s.untouchedBy(x -> x.copy(1, 0, 2, 0, 0), "copy", -12, 2);
            s.untouchedBy(x -> x.as(0, 1), "as", -12, 2);
        });
        s.of(Sentences.TERMS, "3 INDEX (of cells from i on also where i is not 0 .. how many there are, if none of them is taken, too)", () -> {
            for (int i : new int[] {-1, 6, LEAST, MOST}) {
                s.untouchedBy(x -> x.program(1, 1, i, 0), "program from " + i, -13, 3);
                s.untouchedBy(x -> x.day(1, 1, i, 0, 0), "day from " + i, -13, 3);
                s.untouchedBy(x -> x.copy(1, i, 1, 0, 0), "copy from " + i, -13, 3);
                s.untouchedBy(x -> x.copy(1, 0, 1, i, 0), "copy to " + i, -13, 3);
            }
            s.untouchedBy(x -> x.program(1, 1, 5, 0), "program from the end", -100, 0);
            s.untouchedBy(x -> x.day(1, 1, 5, 0, 0), "day from the end", 0, 0);
            s.untouchedBy(x -> x.copy(1, 5, 1, 5, 0), "copy at the end", 0, 0);
        });
        s.of(Sentences.TERMS, "4 SIZE (a length below 0).", () -> {
            for (int n : new int[] {-1, LEAST}) {
                s.untouchedBy(x -> x.sheet(1, 1, n), "sheet of " + n, -14, 4);
                s.untouchedBy(x -> x.program(1, 1, 0, n), "program of " + n, -14, 4);
            }
        });
    }

    private void faultAnswers() {
        s.of(Sentences.TERMS, "Of a call the first that is come to, in the order told;", () -> {
            s.untouchedBy(x -> x.program(1, 0, -1, -1), "program: CAST, SIZE, INDEX", -12, 2);
            s.untouchedBy(x -> x.program(3, 0, -1, -1), "program: NULL, SIZE, INDEX", -11, 1);
            s.untouchedBy(x -> x.program(1, 1, -1, -1), "program: SIZE, INDEX", -14, 4);
            s.untouchedBy(x -> x.put(3, -1, 0), "put: NULL, INDEX", -11, 1);
            s.untouchedBy(x -> x.cell(1, 9, 0), "cell: CAST, INDEX", ActRows.LOST, 2);
            s.untouchedBy(x -> x.cell(3, 9, 0), "cell: NULL, INDEX", ActRows.LOST, 1);
            s.untouchedBy(x -> x.copy(3, -1, 1, 0, 0), "copy: NULL, INDEX", -11, 1);
            s.untouchedBy(x -> x.copy(1, -1, 2, 0, 0), "copy: CAST, INDEX", -12, 2);
        });
        s.of(Sentences.TERMS, "it answers -10 less it", () -> {
            ActRows x = Fixture.made();
            s.due("NULL", x.put(3, 0, 0), -10 - 1);
            s.due("CAST", x.as(0, 2), -10 - 2);
            s.due("INDEX", x.put(1, 5, 0), -10 - 3);
            s.due("SIZE", x.sheet(1, 1, -1), -10 - 4);
        });
        s.of(Sentences.TERMS, "(LOST, where a long is answered, as for refusals)", () -> {
            ActRows x = Fixture.made();
            s.due("a fault", x.cell(1, 5, 1), Long.MIN_VALUE);
            s.due("a refusal of a call that names faults", x.cell(4, 0, 1), Long.MIN_VALUE);
            s.due("a refusal of one that names none", x.odds(0, 5, 0), Long.MIN_VALUE);
        });
        s.of(Sentences.TERMS, "and changes nothing; fault() tells it.", () -> {
            s.untouchedBy(x -> x.sheet(0, 0, -1), "sheet", -14, 4);
            s.untouchedBy(x -> x.put(2, 3, 1), "put", -13, 3);
            s.untouchedBy(x -> x.copy(0, 0, 1, 0, 1), "copy", -12, 2);
            s.untouchedBy(x -> x.copy(1, 0, 1, 1, 5), "copy beyond", -13, 3);
            s.untouchedBy(x -> x.program(1, 1, 1, 5), "program", -13, 3);
            s.untouchedBy(x -> x.as(1, 2), "as", -12, 2);
        });
    }

    private void howTold() {
        s.of(Sentences.TERMS, "NONE is -9.", () -> {
            s.due("the constant", ActRows.NONE, -9);
            s.due("a call", Checks.with("e;p0").run(0, 0), -9);
        });
        s.of(Sentences.TERMS, "Sets are told as bits (bit k for number k).", () -> {
            for (int k = 0; k < 4; k++) {
                ActRows x = Checks.with("e;p0abcd");
                x.live(1 << k);
                s.due("just act " + k, x.run(0, 0), k);
                s.due("with all behind it", Checks.with("e;p0" + "abcd".substring(k)).ofFunction(0, 3), 15 >> k << k);
            }
            ActRows x = Checks.with("e;p0abcd");
            x.reading(0, 4);
            s.due("the empty set, as a set of sets", x.lives(), 1);
            x.back(1);
            x.reading(0, 3);
            s.due("the set of d alone, as a set of sets", x.lives(), 1 << 8);
        });
        s.of(Sentences.TERMS, "Shares are told as upper and lower number (above 0) in least terms.", () -> {
            ActRows x = Checks.with("e;p0;p0abcd;l0ab");
            s.due("none: upper", x.odds(0, 0, 0), 0);
            s.due("none: lower", x.odds(0, 0, 1), 1);
            s.due("all: upper", x.odds(0, 4, 0), 1);
            s.due("all: lower", x.odds(0, 4, 1), 1);
            s.due("8 of 16: upper", x.odds(1, 0, 0), 1);
            s.due("8 of 16: lower", x.odds(1, 0, 1), 2);
            s.due("12 of 16: upper", x.odds(2, 4, 0), 3);
            s.due("12 of 16: lower", x.odds(2, 4, 1), 4);
            s.due("1 of 16: lower", x.odds(1, 4, 1), 16);
        });
    }
}
