/** The document's terms under 5 and the promises 22 to 32: sheets, bodies, faults, how many. */
final class SheetSentences {
    private static final int LEAST = Integer.MIN_VALUE;
    private static final int MOST = Integer.MAX_VALUE;

    private final Sentences s;

    SheetSentences(Sentences s) {
        this.s = s;
    }

    void tell() {
        sheetTerms();
        bodyTerms();
        sheet();
        lose();
        put();
        cell();
        copy();
        copyFaults();
        bodies();
        as();
        trace();
        fault();
        many();
    }

    private void sheetTerms() {
        s.of(Sentences.TERMS, "SHEETS 0 .. 3 have nothing (at first),", () -> {
            ActRows x = new ActRows();
            s.each("none had a row", 0, (y, k) -> y.lose(k), x, 0, 1, 2, 3);
            s.each("nothing to put to", -11, (y, k) -> y.put(k, 0, 0), x, 0, 1, 2, 3);
            s.each("no sheet", ActRows.UNKNOWN, (y, k) -> y.lose(k), x, -1, 4, LEAST, MOST);
        });
        s.of(Sentences.TERMS, "or a row of 0 .. 60 numbers (0 at first) of a LANE: 0 bytes, 1 shorts, 2 ints;", () -> {
            for (int lane = 0; lane < 3; lane++) {
                ActRows x = new ActRows();
                s.due("none", x.sheet(0, lane, 0), 1);
                s.due("no cell 0", x.put(0, 0, 1), -13);
                s.due("it is a row", x.lose(0), 1);
                s.due("60", x.sheet(0, lane, 60), 1);
                for (int i = 0; i < 60; i++) {
                    s.due("at first", x.cell(0, i, lane), 0);
                    x.put(0, i, i + 1);
                }
                s.due("the last", x.cell(0, 59, lane), 60);
                s.due("no cell 60", x.put(0, 60, 1), -13);
                s.due("61", x.sheet(0, lane, 61), ActRows.OUTSIDE);
                s.due("anew", x.sheet(0, lane, 60), 1);
                for (int i = 0; i < 60; i++) {
                    s.due("at first again", x.cell(0, i, lane), 0);
                }
            }
        });
        s.of(Sentences.TERMS, "what comes to a cell of it is cut to its LANE.", () -> {
            int[] given = {127, 128, 255, 256, -128, -129, 32767, 32768, 65535, 65536, -32768, -32769, LEAST, MOST};
            long[][] due = {
                {127, -128, -1, 0, -128, 127, -1, 0, -1, 0, 0, -1, 0, -1},
                {127, 128, 255, 256, -128, -129, 32767, -32768, -1, 0, -32768, 32767, 0, -1},
                {127, 128, 255, 256, -128, -129, 32767, 32768, 65535, 65536, -32768, -32769, LEAST, MOST}
            };
            for (int lane = 0; lane < 3; lane++) {
                ActRows x = new ActRows();
                x.sheet(3, lane, 1);
                for (int v = 0; v < given.length; v++) {
                    s.due("put " + given[v], x.put(3, 0, given[v]), 1);
                    s.due(given[v] + " in lane " + lane, x.cell(3, 0, lane), due[lane][v]);
                }
            }
        });
    }

    private static int traced(int before, int... numbers) {
        int trace = before;
        for (int number : numbers) {
            trace = 31 * trace + number;
        }
        return trace;
    }

    private void bodyTerms() {
        s.of(Sentences.TERMS, "TELLING of FUNCTIONS by bodies that leave their number in TRACE (an int that wraps, 0 at first, becomes 31 times it and the number) as they begin:", () -> {
            ActRows x = Checks.with("e;p0;l0;k0");
            s.due("at first", x.trace(), 0);
            x.tell(0);
            s.due("one", x.trace(), 1);
            x.tell(1);
            s.due("the outer body ahead of the inner", x.trace(), (1 * 31 + 2) * 31 + 1);
            // 4, 128, .. 118333824, then 3668348548, that is beyond an int
            ActRows y = Checks.with("e;p0");
            for (int k = 0; k < 6; k++) {
                y.name(0);
            }
            s.due("ahead of the wrap", y.trace(), 118333824);
            y.name(0);
            s.due("wrapped", y.trace(), (int) 3668348548L);
            s.due("it is below 0", y.trace() < 0 ? 1 : 0, 1);
        });
        s.of(Sentences.TERMS, "PLAIN (1): how many STEPS it has.", () -> {
            ActRows x = Checks.with("e;p0;p0a;p0ab;p0abc;p00123");
            for (int f = 0; f < 5; f++) {
                s.due("of " + f, x.tell(f), f);
            }
            s.due("trace", x.trace(), traced(0, 1, 1, 1, 1, 1));
        });
        s.of(Sentences.TERMS, "LEAVING (2): what PLAIN's gives, and 100.", () -> {
            ActRows x = Checks.with("e;l0;l0a;l0ab;l0abc;l00123");
            for (int f = 0; f < 5; f++) {
                s.due("of " + f, x.tell(f), 100 + f);
            }
            s.due("trace", x.trace(), traced(0, 2, 1, 2, 1, 2, 1, 2, 1, 2, 1));
        });
        s.of(Sentences.TERMS, "KEEPING (3): what LEAVING's gives, and what PLAIN's gives (LEAVING's left out).", () -> {
            ActRows x = Checks.with("e;k0;k0a;k0ab;k0abc;k00123");
            int trace = 0;
            for (int f = 0; f < 5; f++) {
                s.due("of " + f, x.tell(f), 100 + 2 * f);
                trace = traced(trace, 3, 2, 1, 1);
                s.due("trace of " + f, x.trace(), trace);
            }
        });
        s.of(Sentences.TERMS, "NAMED by a lent body (4): its number; KEEPING ones have their own (5): 60.", () -> {
            ActRows x = Checks.with("e;p0;l0;k0;p0;k0");
            int[] due = {0, 1, 60, 3, 60};
            for (int f = 0; f < 5; f++) {
                s.due("of " + f, x.name(f), due[f]);
            }
            s.due("trace", x.trace(), traced(0, 4, 4, 5, 4, 5));
        });
    }

    private void sheet() {
        s.of("22", "A SHEET gets a new row: 1.", () -> {
            ActRows x = new ActRows();
            for (int k = 0; k < 4; k++) {
                s.due("the most cells " + k, x.sheet(k, k % 3, 60), 1);
                s.due("the last cell " + k, x.put(k, 59, 7), 1);
                s.due("no cells " + k, x.sheet(k, 2 - k % 3, 0), 1);
                s.due("the row of before is gone " + k, x.put(k, 0, 7), -13);
                s.due("one cell " + k, x.sheet(k, k % 3, 1), 1);
                s.due("nothing of before " + k, x.cell(k, 0, k % 3), 0);
            }
        });
        s.of("22", "UNKNOWN;", () ->
            s.refusedFor(ActRows.UNKNOWN, (x, k) -> x.sheet(k, 0, 1), -1, 4, LEAST, MOST));
        s.of("22", "OUTSIDE: lane, n above 60;", () -> {
            s.refusedFor(ActRows.OUTSIDE, (x, lane) -> x.sheet(0, lane, 1), -1, 3, LEAST, MOST);
            s.refusedFor(ActRows.OUTSIDE, (x, n) -> x.sheet(0, 0, n), 61, 62, MOST);
            s.refused(ActRows.OUTSIDE, x -> x.sheet(0, 3, -1), x -> x.sheet(3, -1, 61));
        });
        s.of("22", "SIZE.", () ->
            s.faulted(4, x -> x.sheet(0, 0, -1), x -> x.sheet(2, 1, -1), x -> x.sheet(3, 2, LEAST)));
    }

    private void lose() {
        s.of("23", "A SHEET has nothing: 1; 0: it had nothing.", () -> {
            ActRows x = new ActRows();
            for (int k = 0; k < 4; k++) {
                x.sheet(k, k % 3, k == 3 ? 0 : 60);
                s.due("had a row " + k, x.lose(k), 1);
                s.due("had nothing " + k, x.lose(k), 0);
                s.due("has nothing " + k, x.put(k, 0, 0), -11);
            }
            s.untouchedBy(y -> y.lose(3), "nothing", 0, Fixture.PENDING);
        });
        s.of("23", "UNKNOWN.", () ->
            s.refusedFor(ActRows.UNKNOWN, (x, k) -> x.lose(k), -1, 4, LEAST, MOST));
    }

    private void put() {
        s.of("24", "Cell i of a SHEET becomes v: 1.", () -> {
            ActRows x = new ActRows();
            for (int k = 0; k < 4; k++) {
                Checks.write(x, k, 2, 1, 2, 3);
                s.due("the first of " + k, x.put(k, 0, LEAST), 1);
                s.due("the last of " + k, x.put(k, 2, MOST), 1);
                s.due("the first is", x.cell(k, 0, 2), LEAST);
                s.due("the one between stays", x.cell(k, 1, 2), 2);
                s.due("the last is", x.cell(k, 2, 2), MOST);
            }
        });
        s.of("24", "UNKNOWN;", () ->
            s.refusedFor(ActRows.UNKNOWN, (x, k) -> x.put(k, 0, 9), -1, 4, LEAST, MOST));
        s.of("24", "NULL;", () -> s.faulted(1, x -> x.put(3, 0, 9), x -> x.put(3, -1, 9), x -> x.put(3, 60, 9)));
        s.of("24", "INDEX.", () -> {
            s.faulted(3, x -> x.put(2, -1, 9), x -> x.put(2, 3, 9), x -> x.put(2, 59, 9), x -> x.put(2, 60, 9),
                x -> x.put(2, LEAST, 9), x -> x.put(2, MOST, 9));
            ActRows x = new ActRows();
            x.sheet(0, 0, 0);
            s.due("a row without cells", x.put(0, 0, 0), -13);
        });
    }

    private void cell() {
        s.of("25", "Cell i of what a SHEET has, taken as a row of a LANE.", () -> {
            ActRows x = Fixture.made();
            s.due("the first byte", x.cell(0, 0, 0), 3);
            s.due("the last byte", x.cell(0, 3, 0), 6);
            s.due("the last short", x.cell(1, 4, 1), 'a');
            s.due("an int", x.cell(2, 1, 2), 70000);
            s.due("below 0", x.cell(2, 2, 2), -1);
            s.due("no fault", x.fault(), 0);
        });
        s.of("25", "LOST: UNKNOWN,", () ->
            s.refusedFor(ActRows.LOST, (x, k) -> x.cell(k, 0, 0), -1, 4, LEAST, MOST));
        s.of("25", "OUTSIDE: lane;", () ->
            s.refusedFor(ActRows.LOST, (x, lane) -> x.cell(0, 0, lane), -1, 3, LEAST, MOST));
        s.of("25", "FAULTS CAST (nothing is no CAST),", () -> {
            s.faulted(2, x -> x.cell(0, 0, 1), x -> x.cell(0, 0, 2), x -> x.cell(1, 0, 0), x -> x.cell(1, 9, 2),
                x -> x.cell(2, 0, 0), x -> x.cell(2, -1, 1));
            s.faulted(1, x -> x.cell(3, 0, 0), x -> x.cell(3, 0, 1), x -> x.cell(3, 0, 2));
        });
        s.of("25", "NULL,", () -> {
            s.faulted(1, x -> x.cell(3, -1, 0), x -> x.cell(3, 60, 2));
            ActRows x = Fixture.made();
            x.lose(0);
            s.due("a sheet that was lost", x.cell(0, 0, 0), ActRows.LOST);
            s.due("its fault", x.fault(), 1);
        });
        s.of("25", "INDEX.", () -> {
            s.faulted(3, x -> x.cell(0, -1, 0), x -> x.cell(0, 4, 0), x -> x.cell(1, 5, 1), x -> x.cell(2, 3, 2),
                x -> x.cell(0, 59, 0), x -> x.cell(0, 60, 0), x -> x.cell(0, LEAST, 0), x -> x.cell(0, MOST, 0));
            ActRows x = new ActRows();
            x.sheet(0, 0, 0);
            s.due("a row without cells", x.cell(0, 0, 0), ActRows.LOST);
            s.due("its fault", x.fault(), 3);
        });
    }

    private void cells(ActRows x, int k, int lane, int... want) {
        for (int i = 0; i < want.length; i++) {
            s.due("cell " + i + " of " + k, x.cell(k, i, lane), want[i]);
        }
    }

    private void copy() {
        s.of("26", "n cells of a SHEET from i on go to another one (perhaps the same) from j on, as they were: n.", () -> {
            ActRows x = new ActRows();
            Checks.write(x, 0, 1, 1, 2, 3, 4, 5);
            Checks.write(x, 1, 1, 6, 7, 8);
            s.due("to another one", x.copy(0, 2, 1, 0, 3), 3);
            cells(x, 1, 1, 3, 4, 5);
            cells(x, 0, 1, 1, 2, 3, 4, 5);
            s.due("the last to the last", x.copy(1, 2, 0, 4, 1), 1);
            s.due("up in the same, over itself", x.copy(0, 0, 0, 1, 4), 4);
            cells(x, 0, 1, 1, 1, 2, 3, 4);
            s.due("down in the same, over itself", x.copy(0, 1, 0, 0, 4), 4);
            cells(x, 0, 1, 1, 2, 3, 4, 4);
            s.due("to its own place", x.copy(0, 0, 0, 0, 5), 5);
            cells(x, 0, 1, 1, 2, 3, 4, 4);
            s.due("none, at both ends", x.copy(0, 5, 1, 3, 0), 0);
            s.due("no fault", x.fault(), 0);
            ActRows y = new ActRows();
            y.sheet(0, 0, 0);
            s.due("none of none", y.copy(0, 0, 0, 0, 0), 0);
            y.sheet(1, 2, 60);
            y.sheet(2, 2, 60);
            y.put(1, 59, -5);
            s.due("all of the most", y.copy(1, 0, 2, 0, 60), 60);
            s.due("the last of the most", y.cell(2, 59, 2), -5);
        });
        s.of("26", "UNKNOWN;", () -> {
            s.refusedFor(ActRows.UNKNOWN, (x, k) -> x.copy(k, 0, 0, 0, 1), -1, 4, LEAST, MOST);
            s.refusedFor(ActRows.UNKNOWN, (x, k) -> x.copy(0, 0, k, 0, 1), -1, 4, LEAST, MOST);
            s.refused(ActRows.UNKNOWN, x -> x.copy(3, 0, 4, 0, -1), x -> x.copy(4, 0, 3, 0, -1));
        });
    }

    private void copyFaults() {
        s.of("26", "FAULTS NULL (the first, the other),", () ->
            s.faulted(1, x -> x.copy(3, 0, 0, 0, 1), x -> x.copy(0, 0, 3, 0, 1), x -> x.copy(3, 0, 3, 0, 0),
                x -> x.copy(3, -1, 0, -1, -1), x -> x.copy(0, -1, 3, -1, -1)));
        s.of("26", "CAST (unlike LANES),", () ->
            s.faulted(2, x -> x.copy(0, 0, 1, 0, 1), x -> x.copy(1, 0, 0, 0, 1), x -> x.copy(0, 0, 2, 0, 0),
                x -> x.copy(2, 0, 1, 0, 0), x -> x.copy(1, -1, 2, -1, -1)));
        s.of("26", "INDEX: i, j, n below 0 or beyond.", () -> {
            s.faulted(3, x -> x.copy(1, -1, 1, 0, 1), x -> x.copy(1, 0, 1, -1, 1), x -> x.copy(1, 0, 1, 0, -1),
                x -> x.copy(1, 6, 1, 0, 0), x -> x.copy(1, 0, 1, 6, 0), x -> x.copy(1, 0, 1, 0, 6),
                x -> x.copy(1, 1, 1, 0, 5), x -> x.copy(1, 0, 1, 1, 5), x -> x.copy(1, 5, 1, 0, 1),
                x -> x.copy(1, 0, 1, 5, 1), x -> x.copy(1, -1, 1, 0, 0), x -> x.copy(1, 0, 1, -1, 0),
                x -> x.copy(1, 1, 1, 0, MOST), x -> x.copy(1, 0, 1, 1, MOST), x -> x.copy(1, MOST, 1, 0, MOST),
                x -> x.copy(1, MOST, 1, 0, 1), x -> x.copy(1, 0, 1, MOST, 1), x -> x.copy(1, LEAST, 1, 0, 0),
                x -> x.copy(1, 0, 1, LEAST, 0), x -> x.copy(1, 0, 1, 0, LEAST), x -> x.copy(1, 2, 1, 2, -1));
            ActRows x = new ActRows();
            Checks.write(x, 0, 0, 1, 2, 3, 4);
            Checks.write(x, 1, 0, 5, 6);
            s.due("beyond the shorter one", x.copy(0, 0, 1, 0, 3), -13);
            s.due("beyond the shorter one as the first", x.copy(1, 0, 0, 0, 3), -13);
            cells(x, 0, 0, 1, 2, 3, 4);
            cells(x, 1, 0, 5, 6);
        });
    }

    private void bodies() {
        s.of("27", "TELLING of a FUNCTION.", () -> {
            ActRows x = Checks.with("e;p0;p0abcd;l0;l0abcd;k0abcd");
            int[] due = {0, 4, 100, 104, 108};
            for (int f = 0; f < 5; f++) {
                s.due("of " + f, x.tell(f), due[f]);
            }
            s.due("of a keeping one without steps", Checks.with("e;k0").tell(0), 100);
        });
        s.of("27", "UNKNOWN.", () -> {
            s.refusedFor(ActRows.UNKNOWN, (x, f) -> x.tell(f), -1, 3, 5, LEAST, MOST);
            s.due("without a program", new ActRows().tell(0), ActRows.UNKNOWN);
        });
        s.of("28", "How it is NAMED.", () -> {
            ActRows x = Checks.with("e;p0;k0;l0;k0;l0");
            int[] due = {0, 60, 2, 60, 4};
            for (int f = 0; f < 5; f++) {
                s.due("of " + f, x.name(f), due[f]);
            }
        });
        s.of("28", "UNKNOWN.", () -> {
            s.refusedFor(ActRows.UNKNOWN, (x, f) -> x.name(f), -1, 3, 5, LEAST, MOST);
            s.due("without a program", new ActRows().name(0), ActRows.UNKNOWN);
        });
    }

    private void as() {
        s.of("29", "A FUNCTION, taken as one of a kind: 1.", () -> {
            for (int f = 0; f < 3; f++) {
                for (int kind = 0; kind <= f; kind++) {
                    int of = f;
                    int as = kind;
                    s.untouchedBy(x -> x.as(of, as), of + " as " + as, 1, 0);
                }
            }
        });
        s.of("29", "UNKNOWN;", () -> {
            s.refusedFor(ActRows.UNKNOWN, (x, f) -> x.as(f, 0), -1, 3, 5, LEAST, MOST);
            s.due("without a program", new ActRows().as(0, 0), ActRows.UNKNOWN);
        });
        s.of("29", "OUTSIDE;", () -> {
            s.refusedFor(ActRows.OUTSIDE, (x, kind) -> x.as(0, kind), -1, 3, LEAST, MOST);
            s.refusedFor(ActRows.OUTSIDE, (x, kind) -> x.as(2, kind), -1, 3, LEAST, MOST);
        });
        s.of("29", "CAST: it is none.", () ->
            s.faulted(2, x -> x.as(0, 1), x -> x.as(0, 2), x -> x.as(1, 2)));
    }

    private void trace() {
        s.of("30", "TRACE.", () -> {
            ActRows x = new ActRows();
            s.due("at first", x.trace(), 0);
            x.tell(0);
            x.name(0);
            s.due("refused calls leave nothing", x.trace(), 0);
            Checks.take(x, "e;p0;k0");
            s.due("a program leaves nothing", x.trace(), 0);
            x.run(1, 0);
            x.as(1, 2);
            s.due("runs leave nothing", x.trace(), 0);
            int trace = 0;
            for (int k = 0; k < 100; k++) {
                x.tell(1);
                x.name(1);
                trace = traced(trace, 3, 2, 1, 1, 5);
                s.due("wrapped " + k, x.trace(), trace);
            }
            s.due("asked twice", x.trace(), trace);
        });
    }

    private void fault() {
        s.of("31", "The FAULT of the latest call that names one:", () -> {
            ActRows x = Fixture.made();
            int[] due = {1, 2, 3, 4};
            Sentences.Call[] calls = {
                y -> y.put(3, 0, 0), y -> y.as(0, 2), y -> y.put(0, 4, 0), y -> y.sheet(0, 0, -1)
            };
            for (int k = 0; k < 4; k++) {
                calls[k].on(x);
                s.due("fault " + due[k], x.fault(), due[k]);
                s.due("asked twice", x.fault(), due[k]);
                x.lose(3);
                x.run(9, 9);
                x.live(99);
                x.tell(0);
                x.many(0);
                x.odds(9, 9, 9);
                s.due("calls that name none leave it", x.fault(), due[k]);
            }
        });
        s.of("31", "0: it came to none, or was refused", () -> {
            s.untouchedBy(x -> x.program(1, 1, 0, 0), "program with a fault of its text", -100, 0);
            s.untouchedBy(x -> x.day(0, 0, 0, 0, 0), "day", 0, 0);
            s.untouchedBy(x -> x.put(0, 0, 3), "put", 1, 0);
            s.untouchedBy(x -> x.cell(0, 0, 0), "cell", 3, 0);
            s.untouchedBy(x -> x.copy(0, 0, 0, 0, 4), "copy", 4, 0);
            s.untouchedBy(x -> x.as(0, 0), "as", 1, 0);
            s.untouchedBy(x -> x.program(-1, 1, 0, 0), "refused program", ActRows.UNKNOWN, 0);
            s.untouchedBy(x -> x.day(2, 2, 0, 1, 0), "refused pair of a day", ActRows.OUTSIDE, 0);
            s.untouchedBy(x -> x.put(-1, 0, 0), "refused put", ActRows.UNKNOWN, 0);
            s.untouchedBy(x -> x.cell(-1, 0, 0), "refused cell", ActRows.LOST, 0);
            s.untouchedBy(x -> x.copy(-1, 0, 0, 0, 0), "refused copy", ActRows.UNKNOWN, 0);
            s.untouchedBy(x -> x.sheet(0, 3, 0), "refused sheet", ActRows.OUTSIDE, 0);
            s.untouchedBy(x -> x.as(9, 0), "refused as", ActRows.UNKNOWN, 0);
            ActRows x = Fixture.made();
            s.due("sheet", x.sheet(0, 0, 0), 1);
            s.due("sheet, fault", x.fault(), 0);
            x.put(0, 0, 0);
            s.due("program", x.program(1, 1, 0, 5), 1);
            s.due("program, fault", x.fault(), 0);
            x.put(0, 0, 0);
            ActRows none = new ActRows();
            none.put(0, 0, 0);
            s.due("day without a program", none.day(0, 0, 0, 0, 0), ActRows.STATE);
            s.due("day without a program, fault", none.fault(), 0);
        });
        s.of("31", "(0 ahead of any).", () -> {
            ActRows x = new ActRows();
            s.due("a new object", x.fault(), 0);
            x.run(0, 0);
            x.lose(0);
            x.live(0);
            s.due("behind calls that name none", x.fault(), 0);
        });
    }

    private void many() {
        s.of("32", "How many: 0 FUNCTIONS, 1 STEPS of all, 2 ACTS that are LIVE, 3 FUNCTIONS that let anything out, as all is now, 4 READINGS", () -> {
            ActRows least = Checks.with("e;p0");
            int[] few = {1, 0, 4, 0, 0};
            ActRows most = Checks.with("e;p0abcd;p0abcd;p0abcd;p0abcd;p0abcd");
            for (int k = 0; k < 8; k++) {
                most.reading(0, 0);
            }
            int[] all = {5, 20, 4, 5, 8};
            for (int what = 0; what < 5; what++) {
                s.due("least " + what, least.many(what), few[what]);
                s.due("most " + what, most.many(what), all[what]);
            }
            most.live(0);
            s.due("none is live", most.many(2), 0);
            s.due("none lets out", most.many(3), 0);
            ActRows x = Checks.with("e;p0a;l0a;k0ab;l0d;p0");
            s.due("some let out", x.many(3), 3);
            x.guard(3, 3);
            x.live(9);
            s.due("fewer let out now", x.many(3), 1);
        });
        s.of("32", "(0 all without a PROGRAM).", () -> {
            ActRows x = new ActRows();
            s.each("a new object", 0, (y, what) -> y.many(what), x, 0, 1, 2, 3, 4);
            Checks.take(x, "e;p0abcd;");
            s.each("a text with a fault", 0, (y, what) -> y.many(what), x, 0, 1, 2, 3, 4);
        });
        s.of("32", "OUTSIDE.", () -> {
            s.refusedFor(ActRows.OUTSIDE, (x, what) -> x.many(what), -1, 5, LEAST, MOST);
            s.due("without a program", new ActRows().many(5), ActRows.OUTSIDE);
        });
    }
}
