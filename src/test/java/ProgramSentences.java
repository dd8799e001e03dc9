/** The document's terms under 1 and the promises 1 to 7: the program. */
final class ProgramSentences {
    private static final int LEAST = Integer.MIN_VALUE;
    private static final int MOST = Integer.MAX_VALUE;

    private final Sentences s;

    ProgramSentences(Sentences s) {
        this.s = s;
    }

    void tell() {
        texts();
        firstFaults();
        kindsAndCodes();
        takenText();
        newObject();
        program();
        programRefusals();
        ofFunction();
        step();
        patch();
        guard();
        live();
    }

    private void text(String text, int want) {
        s.due(text, Checks.take(new ActRows(), text), want);
    }

    private void texts() {
        s.of(Sentences.TERMS, "ACTS are 0 .. 3.", () -> {
            ActRows x = Checks.with("e;p0abcd");
            for (int act = 0; act < 4; act++) {
                s.due("step " + act, x.step(0, act), act);
                s.due("patch to " + act, x.patch(0, 0, act), Math.max(0, act - 1));
                s.due("witness of " + act, x.witness(0, act) == ActRows.OUTSIDE ? 1 : 0, 0);
            }
            s.each("no act", ActRows.OUTSIDE, (y, act) -> y.witness(0, act), x, -1, 4);
            s.each("no act to guard against", ActRows.OUTSIDE, (y, act) -> y.guard(0, act), x, -1, 4);
        });
        s.of(Sentences.TERMS, "A PROGRAM by a TEXT: e, then 1 to 5 FUNCTIONS, numbered from 0 on,", () -> {
            text("e", -101);
            text("e;p0", 1);
            text("e;p0;p0;p0;p0;p0", 5);
            text("e;p0;p0;p0;p0;p0;p0", -116);
            text(";p0", -100);
            text("d;p0", -100);
            text("f;p0", -100);
            text("ee;p0", -101);
            ActRows x = Checks.with("e;p0;l1;k2;p3;l0");
            for (int f = 0; f < 5; f++) {
                s.due("number " + f, x.ofFunction(f, 1), f % 4);
            }
            s.each("no number", ActRows.UNKNOWN, (y, f) -> y.ofFunction(f, 1), x, -1, 5);
        });
        s.of(Sentences.TERMS, "each: ; and a letter (its kind),", () -> {
            text("e:p0", -101);
            text("e<p0", -101);
            text("e;p0;k0;l0", 3);
            for (char none : new char[] {'j', 'm', 'o', 'q', 'P', 'L', 'K', '0', 'a', ';', 'e'}) {
                text("e;" + none + "0", -102);
            }
        });
        s.of(Sentences.TERMS, "a digit 0 .. 3 (the ACT that it GUARDS against),", () -> {
            for (int act = 0; act < 4; act++) {
                s.due("against " + act, Checks.with("e;l" + act).ofFunction(0, 1), act);
            }
            for (char none : new char[] {'/', '4', '9', 'a', 'd', ';', 'p'}) {
                text("e;l" + none, -103);
            }
        });
        s.of(Sentences.TERMS, "then 0 to 4 STEPS,", () -> {
            String steps = "abcd";
            for (int n = 0; n <= 4; n++) {
                s.due(n + " steps", Checks.with("e;p0" + steps.substring(0, n)).ofFunction(0, 2), n);
            }
            text("e;p0abcda", -108);
            text("e;p0;p0abc0;p0abcd1", -118);
        });
        s.of(Sentences.TERMS, "each a letter a .. d (ACT 0 .. 3)", () -> {
            ActRows x = Checks.with("e;p0dcba");
            for (int i = 0; i < 4; i++) {
                s.due("step " + i, x.step(0, i), 3 - i);
            }
            text("e;p0`", -104);
            text("e;p0e", -104);
            text("e;p0A", -104);
            text("e;p0ae", -105);
        });
        s.of(Sentences.TERMS, "or the digit of a FUNCTION ahead of it (0 .. its own number less 1).", () -> {
            String ahead = "e";
            for (int f = 0; f < 5; f++) {
                ahead += ";p0";
                text(ahead + "/", -100 - ahead.length());
                text(ahead + f, -100 - ahead.length());
                text(ahead + (f + 1), -100 - ahead.length());
                if (f > 0) {
                    text(ahead + "0" + (f - 1), f + 1);
                }
            }
        });
    }

    private void firstFaults() {
        s.of(Sentences.TERMS, "FIRST FAULT: the place (from 0 on) of the first code with which no TEXT goes on (a fifth STEP, the ; of a sixth FUNCTION);", () -> {
            text("x", -100);
            text("xx", -100);
            text("e;x4", -102);
            text("e;p0abcdb", -108);
            text("e;p0abcd0;", -108);
            text("e;p0;p00000;p0;p0;p0abcd;p0", -124);
            text("e;p0abcd;p0abcd;p0abcd;p0abcd;p0abcd;", -136);
            text("e;p0;p0;p0;p0;p0;x", -116);
            // the first of two
            text("e;p9;x", -103);
        });
        s.of(Sentences.TERMS, "how many codes there are, if it just ends too soon.", () -> {
            text("", -100);
            text("e", -101);
            text("e;", -102);
            text("e;p", -103);
            text("e;p0;", -105);
            text("e;p0abcd;", -109);
            text("e;p0abcd;p0abcd;p0abcd;p0abcd;", -130);
            text("e;p0abcd;p0abcd;p0abcd;p0abcd;k", -131);
        });
    }

    private void kindsAndCodes() {
        s.of(Sentences.TERMS, "(Codes: e 101, p 112, l 108, k 107, ; 59, a .. d 97 .. 100, digits 48 .. 57.)", () -> {
            ActRows x = new ActRows();
            Checks.write(x, 0, 2, 101, 59, 112, 48, 97, 98, 99, 100, 59, 108, 51, 48, 59, 107, 49);
            s.due("functions", x.program(0, 2, 0, 15), 3);
            for (int f = 0; f < 3; f++) {
                s.due("kind", x.ofFunction(f, 0), f);
            }
            s.due("guard", x.ofFunction(1, 1), 3);
            s.due("first act", x.step(0, 0), 0);
            s.due("last act", x.step(0, 3), 3);
            s.due("function 0", x.step(1, 0), 4);
            for (int code : new int[] {101 + 256, 101 + 65536, 101 - 256, -101, 0, LEAST, MOST}) {
                Checks.write(x, 0, 2, code, 59, 112, 48);
                s.due("no e " + code, x.program(0, 2, 0, 4), -100);
            }
            for (int code : new int[] {47, 57, 58, 96, 101, 59 - 256, 48 + 256, 97 + 65536, LEAST, MOST}) {
                Checks.write(x, 0, 2, 101, 59, 112, 48, code);
                s.due("no step " + code, x.program(0, 2, 0, 5), -104);
            }
        });
        s.of(Sentences.TERMS, "Kinds: 0 PLAIN (p); 1 LEAVING (l), a PLAIN one; 2 KEEPING (k), a LEAVING one.", () -> {
            ActRows x = Checks.with("e;p0;l0;k0");
            for (int f = 0; f < 3; f++) {
                s.due("kind " + f, x.ofFunction(f, 0), f);
                for (int kind = 0; kind < 3; kind++) {
                    s.due(f + " as " + kind, x.as(f, kind), kind <= f ? 1 : -12);
                }
            }
        });
    }

    private void takenText() {
        s.of(Sentences.TERMS, "A TEXT that is taken makes all anew: all ACTS are LIVE, no READINGS.", () -> {
            ActRows x = Fixture.made();
            x.live(0);
            s.due("taken", x.program(1, 1, 0, 5), 1);
            s.due("all are live", x.live(15), 15);
            s.due("no readings", x.many(4), 0);
            s.due("none to take back", x.back(1), ActRows.OUTSIDE);
            s.due("no second function", x.ofFunction(1, 0), ActRows.UNKNOWN);
            s.due("no steps of before", x.many(1), 1);
            s.due("first reading", x.reading(0, 0), 0);
            s.due("by this reading alone", x.kinds(0), 1);
        });
        s.of(Sentences.TERMS, "STEPS by numbers: 0 .. 3 that ACT, 4 and g: FUNCTION g is called.", () -> {
            ActRows x = Checks.with("e;p0d;p0;p0;p0;p00123");
            for (int g = 0; g < 4; g++) {
                s.due("call of " + g, x.step(4, g), 4 + g);
            }
            s.due("act", x.step(0, 0), 3);
            ActRows y = Checks.with("e;p0d;p0c;p0b;p0a;p0a");
            int[] outs = {0, 1, 2, 3, 3, 2, 1, 0};
            for (int v = 0; v < 8; v++) {
                y.patch(4, 0, v);
                s.due("out by step " + v, y.run(4, 0), outs[v]);
            }
        });
    }

    private void newObject() {
        s.of("1", "No PROGRAM (no FUNCTIONS),", () -> {
            ActRows x = new ActRows();
            for (int what = 0; what <= 4; what++) {
                s.due("many " + what, x.many(what), 0);
            }
            s.due("function 0", x.ofFunction(0, 0), ActRows.UNKNOWN);
            s.due("live", x.live(15), ActRows.STATE);
        });
        s.of("1", "SHEETS have nothing.", () -> {
            ActRows x = new ActRows();
            for (int k = 0; k < 4; k++) {
                s.due("put " + k, x.put(k, 0, 0), -11);
                s.due("lose " + k, x.lose(k), 0);
            }
        });
    }

    private void program() {
        s.of("2", "A PROGRAM by a TEXT of n cells of a SHEET from i on, taken as a row of a LANE: how many FUNCTIONS;", () -> {
            for (int k = 0; k < 4; k++) {
                ActRows x = new ActRows();
                int lane = k % 3;
                x.sheet(k, lane, 60);
                Checks.put(x, k, 60 - 19, "e;p0;p0;p0;p0;p0abc");
                s.due("at the end of " + k, x.program(k, lane, 41, 19), 5);
                s.due("its last step", x.step(4, 2), 2);
                s.due("fewer cells", x.program(k, lane, 41, 4), 1);
                s.due("one function then", x.many(0), 1);
            }
            ActRows x = new ActRows();
            Checks.write(x, 0, 0, "e;p0abcd;p0abcd;p0abcd;p0abcd;p0abcd");
            s.due("the longest", x.program(0, 0, 0, 36), 5);
            s.due("its steps", x.many(1), 20);
            Checks.write(x, 0, 0, 'e' + 256, ';' - 256, 'k' + 512, '0' + 1024);
            s.due("bytes that were cut", x.program(0, 0, 0, 4), 1);
        });
        s.of("2", "-100 less the FIRST FAULT.", () -> {
            ActRows x = new ActRows();
            Checks.write(x, 0, 0, "..e;p0abcda");
            s.due("its place in the text, not in the sheet", x.program(0, 0, 2, 9), -108);
            s.due("none taken", x.program(0, 0, 2, 0), -100);
            s.due("all but the last", x.program(0, 0, 2, 3), -103);
            s.due("no fault of the machine", x.fault(), 0);
            s.due("no program", x.many(0), 0);
        });
    }

    private void programRefusals() {
        s.of("2", "UNKNOWN;", () ->
            s.refusedFor(ActRows.UNKNOWN, (x, k) -> x.program(k, 1, 0, 5), -1, 4, LEAST, MOST));
        s.of("2", "OUTSIDE: lane;", () ->
            s.refusedFor(ActRows.OUTSIDE, (x, lane) -> x.program(1, lane, 0, 5), -1, 3, LEAST, MOST));
        s.of("2", "CAST (nothing is no CAST);", () -> {
            s.faulted(2, x -> x.program(0, 1, 0, 0), x -> x.program(0, 2, 0, 0), x -> x.program(1, 0, 0, 5),
                x -> x.program(1, 2, 0, 5), x -> x.program(2, 0, 0, 0), x -> x.program(2, 1, 0, 0));
            s.faulted(1, x -> x.program(3, 0, 0, 0), x -> x.program(3, 1, 0, 0), x -> x.program(3, 2, 0, 0));
        });
        s.of("2", "NULL;", () -> {
            s.faulted(1, x -> x.program(3, 0, 0, 5), x -> x.program(3, 1, 0, -1), x -> x.program(3, 2, -1, 0));
            ActRows x = Fixture.made();
            x.lose(1);
            s.due("a sheet that was lost", x.program(1, 1, 0, 5), -11);
        });
        s.of("2", "SIZE: n below 0;", () -> {
            s.faulted(4, x -> x.program(1, 1, 0, -1), x -> x.program(1, 1, 5, -1), x -> x.program(1, 1, 0, LEAST),
                x -> x.program(1, 1, -1, -1), x -> x.program(1, 1, MOST, LEAST));
            s.untouchedBy(x -> x.program(1, 1, 0, 0), "no cells", -100, 0);
        });
        s.of("2", "INDEX;", () -> {
            s.faulted(3, x -> x.program(1, 1, -1, 0), x -> x.program(1, 1, -1, 5), x -> x.program(1, 1, 6, 0),
                x -> x.program(1, 1, 0, 6), x -> x.program(1, 1, 1, 5), x -> x.program(1, 1, 5, 1),
                x -> x.program(1, 1, 1, MOST), x -> x.program(1, 1, MOST, 1), x -> x.program(1, 1, MOST, MOST),
                x -> x.program(1, 1, LEAST, 0), x -> x.program(1, 1, LEAST, MOST));
            s.due("all cells", Fixture.made().program(1, 1, 0, 5), 1);
        });
        s.of("2", "-100 less it.", () -> {
            s.untouchedBy(x -> x.program(1, 1, 0, 0), "no cells", -100, 0);
            s.untouchedBy(x -> x.program(1, 1, 0, 3), "too few cells", -103, 0);
            s.untouchedBy(x -> x.program(1, 1, 1, 4), "no e", -100, 0);
            s.untouchedBy(x -> x.program(2, 2, 0, 3), "no text", -100, 0);
        });
    }

    private void ofFunction() {
        s.of("3", "Of a FUNCTION: 0 kind, 1 the ACT that it GUARDS against, 2 how many STEPS, 3 ROW, 4 MAY, as sets.", () -> {
            ActRows x = Checks.with("e;p0;l1a;k2cd;p3abcd;l3dddd");
            int[][] due = {{0, 0, 0, 0, 0}, {1, 1, 1, 1, 1}, {2, 2, 2, 8, 8}, {0, 3, 4, 15, 15}, {1, 3, 4, 0, 0}};
            for (int f = 0; f < 5; f++) {
                for (int what = 0; what < 5; what++) {
                    s.due(what + " of " + f, x.ofFunction(f, what), due[f][what]);
                }
            }
        });
        s.of("3", "UNKNOWN;", () -> {
            s.refusedFor(ActRows.UNKNOWN, (x, f) -> x.ofFunction(f, 0), -1, 3, 5, LEAST, MOST);
            s.due("without a program", new ActRows().ofFunction(0, 0), ActRows.UNKNOWN);
        });
        s.of("3", "OUTSIDE.", () ->
            s.refusedFor(ActRows.OUTSIDE, (x, what) -> x.ofFunction(2, what), -1, 5, LEAST, MOST));
    }

    private void step() {
        s.of("4", "STEP i (from 0 on) of a FUNCTION, as a number.", () -> {
            ActRows x = Fixture.made();
            int[][] due = {{0}, {1, 4}, {5, 4, 2, 3}};
            for (int f = 0; f < 3; f++) {
                for (int i = 0; i < due[f].length; i++) {
                    s.due(i + " of " + f, x.step(f, i), due[f][i]);
                }
            }
            s.due("the last of the last", Checks.with("e;p0;p0;p0;p0;p0abc3").step(4, 3), 7);
        });
        s.of("4", "UNKNOWN: FUNCTION, place.", () -> {
            s.refusedFor(ActRows.UNKNOWN, (x, f) -> x.step(f, 0), -1, 3, 5, LEAST, MOST);
            s.refusedFor(ActRows.UNKNOWN, (x, i) -> x.step(1, i), -1, 2, 3, 4, -4, LEAST, MOST);
            s.refusedFor(ActRows.UNKNOWN, (x, i) -> x.step(2, i), -1, 4, 5);
            s.due("a function without steps", Checks.with("e;p0").step(0, 0), ActRows.UNKNOWN);
            s.due("without a program", new ActRows().step(0, 0), ActRows.UNKNOWN);
        });
    }

    private void patch() {
        s.of("5", "STEP i of a FUNCTION becomes v (0 .. 3, 4 and a FUNCTION ahead of it): what it was.", () -> {
            ActRows x = Checks.with("e;p0a;p0b;p0c;p0d;p0abcd");
            for (int f = 0; f < 5; f++) {
                int was = x.step(f, 0);
                for (int v = 0; v < 4 + f; v++) {
                    s.due(f + " to " + v, x.patch(f, 0, v), was);
                    s.due("it is", x.step(f, 0), v);
                    was = v;
                }
            }
            s.due("the last step", x.patch(4, 3, 7), 3);
            s.due("the last step is", x.step(4, 3), 7);
            s.due("the one ahead stays", x.step(4, 2), 2);
            s.due("as many steps as before", x.many(1), 8);
        });
        s.of("5", "UNKNOWN: FUNCTION, place;", () -> {
            s.refusedFor(ActRows.UNKNOWN, (x, f) -> x.patch(f, 0, 1), -1, 3, 5, LEAST, MOST);
            s.refusedFor(ActRows.UNKNOWN, (x, i) -> x.patch(1, i, 1), -1, 2, 3, 4, -4, LEAST, MOST);
            s.refusedFor(ActRows.UNKNOWN, (x, i) -> x.patch(2, i, 1), -1, 4);
            s.due("a function without steps", Checks.with("e;p0").patch(0, 0, 0), ActRows.UNKNOWN);
            s.due("without a program", new ActRows().patch(0, 0, 0), ActRows.UNKNOWN);
        });
        s.of("5", "OUTSIDE.", () -> {
            s.refusedFor(ActRows.OUTSIDE, (x, v) -> x.patch(0, 0, v), -1, 4, 5, LEAST, MOST);
            s.refusedFor(ActRows.OUTSIDE, (x, v) -> x.patch(1, 0, v), -1, 5, 6);
            s.refusedFor(ActRows.OUTSIDE, (x, v) -> x.patch(2, 3, v), -1, 6, 7, LEAST, MOST);
        });
    }

    private void guard() {
        s.of("6", "A FUNCTION GUARDS against an ACT (0 .. 3): against which it did.", () -> {
            ActRows x = Fixture.made();
            for (int f = 0; f < 3; f++) {
                int was = f;
                for (int act = 0; act < 4; act++) {
                    s.due(f + " against " + act, x.guard(f, act), was);
                    s.due("it does", x.ofFunction(f, 1), act);
                    was = act;
                }
            }
        });
        s.of("6", "UNKNOWN;", () -> {
            s.refusedFor(ActRows.UNKNOWN, (x, f) -> x.guard(f, 3), -1, 3, 5, LEAST, MOST);
            s.due("without a program", new ActRows().guard(0, 0), ActRows.UNKNOWN);
        });
        s.of("6", "OUTSIDE.", () ->
            s.refusedFor(ActRows.OUTSIDE, (x, act) -> x.guard(1, act), -1, 4, LEAST, MOST));
    }

    private void live() {
        s.of("7", "Just the ACTS of a set (0 .. 15) are LIVE: which were.", () -> {
            ActRows x = Checks.with("e;p0abcd");
            int was = 15;
            for (int set = 0; set < 16; set++) {
                s.due("to " + set, x.live(set), was);
                s.due("the first of " + set, x.run(0, 0), set == 0 ? ActRows.NONE : Integer.numberOfTrailingZeros(set));
                s.due("how many of " + set, x.many(2), Integer.bitCount(set));
                was = set;
            }
        });
        s.of("7", "OUTSIDE;", () -> {
            s.refusedFor(ActRows.OUTSIDE, (x, set) -> x.live(set), -1, 16, LEAST, MOST);
            s.due("ahead of STATE", new ActRows().live(16), ActRows.OUTSIDE);
        });
        s.of("7", "STATE: there is no PROGRAM.", () -> {
            ActRows x = new ActRows();
            s.each("set", ActRows.STATE, (y, set) -> y.live(set), x, 0, 15);
            s.due("a text with a fault is no program", Checks.take(x, "e;p"), -103);
            s.due("still", x.live(0), ActRows.STATE);
            s.due("a program of one function", Checks.take(x, "e;p0"), 1);
            s.due("then all are live", x.live(0), 15);
        });
    }
}
