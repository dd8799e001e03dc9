/** Promises 1 to 7: a new object, the program and what is told anew. */
public final class ProgramTest {
    private static final Checks CHECKS = new Checks();

    private static void due(String what, long got, long want) {
        CHECKS.due(what, got, want);
    }

    public static void main(String[] args) {
        newObject();
        texts();
        programRefusals();
        takenMakesAnew();
        ofFunction();
        step();
        patch();
        guard();
        live();
        CHECKS.end();
    }

    private static void newObject() {
        ActRows x = new ActRows();
        for (int what = 0; what <= 4; what++) {
            due("1 many " + what, x.many(what), 0);
        }
        for (int k = 0; k < 4; k++) {
            due("1 lose " + k, x.lose(k), 0);
            due("1 cell " + k, x.cell(k, 0, 0), ActRows.LOST);
            due("1 cell fault " + k, x.fault(), 1);
        }
        ActRows y = new ActRows();
        due("1 fault", y.fault(), 0);
        due("1 trace", y.trace(), 0);
        due("1 ofFunction", y.ofFunction(0, 0), ActRows.UNKNOWN);
        due("1 step", y.step(0, 0), ActRows.UNKNOWN);
        due("1 patch", y.patch(0, 0, 0), ActRows.UNKNOWN);
        due("1 guard", y.guard(0, 0), ActRows.UNKNOWN);
        due("1 run", y.run(0, 0), ActRows.UNKNOWN);
        due("1 performed", y.performed(0, 0), ActRows.UNKNOWN);
        due("1 path", y.path(0, 0), ActRows.UNKNOWN);
        due("1 witness", y.witness(0, 0), ActRows.UNKNOWN);
        due("1 free", y.free(0, 0), ActRows.UNKNOWN);
        due("1 plugs", y.plugs(0), ActRows.UNKNOWN);
        due("1 more", y.more(0, 0), ActRows.UNKNOWN);
        due("1 reading", y.reading(0, 0), ActRows.UNKNOWN);
        due("1 back 0", y.back(0), 0);
        due("1 back 1", y.back(1), ActRows.OUTSIDE);
        due("1 kinds", y.kinds(0), ActRows.UNKNOWN);
        due("1 guards", y.guards(0), ActRows.UNKNOWN);
        due("1 odds", y.odds(0, 0, 0), ActRows.LOST);
        due("1 tell", y.tell(0), ActRows.UNKNOWN);
        due("1 name", y.name(0), ActRows.UNKNOWN);
        due("1 as", y.as(0, 0), ActRows.UNKNOWN);
        due("1 lives", y.lives(), ActRows.STATE);
        due("1 live", y.live(0), ActRows.STATE);
    }

    private static void text(String text, int want) {
        due("2 program " + text, Checks.take(new ActRows(), text), want);
    }

    private static void texts() {
        text("", -100);
        text("e", -101);
        text("e;", -102);
        text("e;p", -103);
        text("e;p0", 1);
        text("e;p0;", -105);
        text("x", -100);
        text(";", -100);
        text("ep", -101);
        text("e;;", -102);
        text("e;e", -102);
        text("e;P", -102);
        text("e;p4", -103);
        text("e;p/", -103);
        text("e;pa", -103);
        text("e;p;", -103);
        text("e;l3", 1);
        text("e;k3abcd", 1);
        text("e;k3abcda", -108);
        text("e;k3abcd0", -108);
        text("e;k3abcd;p0", 2);
        text("e;p0e", -104);
        text("e;p0p", -104);
        text("e;p0`", -104);
        text("e;p0dcba", 1);
        // a function calls only those ahead of it
        text("e;p00", -104);
        text("e;p0;p00", 2);
        text("e;p0;p01", -107);
        text("e;p0;p0;p010", 3);
        text("e;p0;p0;p02", -110);
        text("e;p0;p0;p0;p0;p00123", 5);
        text("e;p0;p0;p0;p0;p04", -116);
        text("e;p0;p0;p0;p0;p0/", -116);
        // the sixth function
        text("e;p0;p0;p0;p0;p0;", -116);
        text("e;p0;p0;p0;p0;p0;p0", -116);
        text("e;p0abcd;p0abcd;p0abcd;p0abcd;p0abcd", 5);
        text("e;p0abcd;p0abcd;p0abcd;p0abcd;p0abcd;", -136);
        text("e;p0abcd;p0abcd;p0abcd;p0abcd;p0abcda", -136);
    }

    private static void programRefusals() {
        ActRows x = new ActRows();
        Checks.write(x, 1, 0, "..e;p0a..");
        due("2 unknown ahead of lane", x.program(4, 3, 0, 0), ActRows.UNKNOWN);
        due("2 unknown below", x.program(-1, 0, 0, 0), ActRows.UNKNOWN);
        due("2 lane above", x.program(1, 3, -1, -1), ActRows.OUTSIDE);
        due("2 lane below", x.program(0, -1, 0, 0), ActRows.OUTSIDE);
        due("2 outside is no fault", x.fault(), 0);
        due("2 cast ahead of size", x.program(1, 2, -1, -1), -12);
        due("2 cast fault", x.fault(), 2);
        due("2 null", x.program(0, 2, -1, -1), -11);
        due("2 null fault", x.fault(), 1);
        due("2 size ahead of index", x.program(1, 0, -1, -1), -14);
        due("2 size fault", x.fault(), 4);
        due("2 index below", x.program(1, 0, -1, 0), -13);
        due("2 index fault", x.fault(), 3);
        due("2 index above", x.program(1, 0, 10, 0), -13);
        due("2 index at the end", x.program(1, 0, 9, 0), -100);
        due("2 no fault", x.fault(), 0);
        due("2 one beyond", x.program(1, 0, 8, 2), -13);
        due("2 far beyond", x.program(1, 0, 1, Integer.MAX_VALUE), -13);
        due("2 far place", x.program(1, 0, Integer.MAX_VALUE, Integer.MAX_VALUE), -13);
        due("2 still none", x.many(0), 0);
        due("2 within", x.program(1, 0, 2, 5), 1);
        due("2 steps", x.many(1), 1);
        // codes are taken as they stand in their lane
        Checks.write(x, 2, 2, 'e' + 256, ';', 'p', '0');
        due("2 ints are not cut", x.program(2, 2, 0, 4), -100);
        Checks.write(x, 2, 0, 'e' + 256, ';' - 256, 'p' + 512, '0' + 1024);
        due("2 bytes are cut", x.program(2, 0, 0, 4), 1);
        Checks.write(x, 2, 1, 'e' + 65536, ';', 'p', '0');
        due("2 shorts are cut", x.program(2, 1, 0, 4), 1);
    }

    private static void takenMakesAnew() {
        ActRows x = Checks.with("e;p0a;l1b0");
        x.live(5);
        x.reading(0, 0);
        x.reading(1, 4);
        x.patch(0, 0, 3);
        x.guard(1, 3);
        x.tell(1);
        int trace = x.trace();
        due("2 fault leaves functions", Checks.take(x, "e;p0a;l1b2"), -109);
        due("2 left live", x.live(5), 5);
        due("2 left readings", x.many(4), 2);
        due("2 left step", x.step(0, 0), 3);
        due("2 left guard", x.ofFunction(1, 1), 3);
        due("2 left functions", x.many(0), 2);
        due("2 anew", Checks.take(x, "e;k2"), 1);
        due("2 anew live", x.many(2), 4);
        due("2 anew readings", x.many(4), 0);
        due("2 anew steps", x.many(1), 0);
        due("2 anew kind", x.ofFunction(0, 0), 2);
        due("2 anew guard", x.ofFunction(0, 1), 2);
        due("2 anew no second", x.ofFunction(1, 0), ActRows.UNKNOWN);
        due("2 trace stays", x.trace(), trace);
    }

    private static void ofFunction() {
        ActRows x = Checks.with("e;p1ab;l0ac;k10d;p30120;l2");
        int[] kinds = {0, 1, 2, 0, 1};
        int[] guards = {1, 0, 1, 3, 2};
        int[] lengths = {2, 2, 2, 4, 0};
        int[] rows = {3, 4, 9, 15, 0};
        for (int f = 0; f < 5; f++) {
            due("3 kind " + f, x.ofFunction(f, 0), kinds[f]);
            due("3 guard " + f, x.ofFunction(f, 1), guards[f]);
            due("3 steps " + f, x.ofFunction(f, 2), lengths[f]);
            due("3 row " + f, x.ofFunction(f, 3), rows[f]);
            due("3 may " + f, x.ofFunction(f, 4), rows[f]);
        }
        x.live(0);
        due("3 row without live", x.ofFunction(3, 3), 15);
        due("3 may without live", x.ofFunction(3, 4), 15);
        due("3 live left by may", x.live(0), 0);
        x.guard(3, 0);
        due("3 plain guard is no guard", x.ofFunction(3, 3), 15);
        x.guard(2, 0);
        due("3 row by a new guard", x.ofFunction(2, 3), 10);
        x.patch(2, 1, 0);
        due("3 row by a new step", x.ofFunction(2, 3), 2);
        due("3 unknown ahead", x.ofFunction(5, 5), ActRows.UNKNOWN);
        due("3 unknown below", x.ofFunction(-1, 0), ActRows.UNKNOWN);
        due("3 outside above", x.ofFunction(0, 5), ActRows.OUTSIDE);
        due("3 outside below", x.ofFunction(0, -1), ActRows.OUTSIDE);
    }

    private static void step() {
        ActRows x = Checks.with("e;p0dcba;l1b0;k2100c");
        int[][] steps = {{3, 2, 1, 0}, {1, 4}, {5, 4, 4, 2}};
        for (int f = 0; f < 3; f++) {
            for (int i = 0; i < steps[f].length; i++) {
                due("4 step " + f + " " + i, x.step(f, i), steps[f][i]);
            }
            due("4 place above " + f, x.step(f, steps[f].length), ActRows.UNKNOWN);
            due("4 place below " + f, x.step(f, -1), ActRows.UNKNOWN);
        }
        due("4 function above", x.step(3, 0), ActRows.UNKNOWN);
        due("4 function below", x.step(-1, 0), ActRows.UNKNOWN);
        due("4 far place", x.step(0, Integer.MAX_VALUE), ActRows.UNKNOWN);
        due("4 near place of the next", x.step(1, 4), ActRows.UNKNOWN);
        due("4 place of the one ahead", x.step(1, -4), ActRows.UNKNOWN);
    }

    private static void patch() {
        ActRows x = Checks.with("e;p0a;p0b;p001");
        due("5 was", x.patch(0, 0, 3), 0);
        due("5 is", x.step(0, 0), 3);
        due("5 runs", x.run(2, 0), 3);
        due("5 was call", x.patch(2, 0, 5), 4);
        due("5 runs the other", x.run(2, 0), 1);
        due("5 was then", x.patch(2, 0, 2), 5);
        due("5 others stay", x.step(2, 1), 5);
        due("5 own number", x.patch(2, 0, 6), ActRows.OUTSIDE);
        due("5 function 0 calls none", x.patch(0, 0, 4), ActRows.OUTSIDE);
        due("5 function 1 calls 0", x.patch(1, 0, 4), 1);
        due("5 below", x.patch(2, 0, -1), ActRows.OUTSIDE);
        due("5 far above", x.patch(2, 0, Integer.MAX_VALUE), ActRows.OUTSIDE);
        due("5 refused changes nothing", x.step(2, 0), 2);
        due("5 place ahead of v", x.patch(0, 1, -1), ActRows.UNKNOWN);
        due("5 place below", x.patch(0, -1, 0), ActRows.UNKNOWN);
        due("5 function above", x.patch(3, 0, 0), ActRows.UNKNOWN);
        due("5 function below", x.patch(-1, 0, 0), ActRows.UNKNOWN);
        due("5 no fault named", x.fault(), 0);
        due("5 no step more", x.many(1), 4);
    }

    private static void guard() {
        ActRows x = Checks.with("e;p0a;l1ab");
        due("6 before", x.run(1, 0), 0);
        due("6 was", x.guard(1, 0), 1);
        due("6 is", x.ofFunction(1, 1), 0);
        due("6 runs", x.run(1, 0), ActRows.NONE);
        due("6 was then", x.guard(1, 3), 0);
        due("6 plain too", x.guard(0, 3), 0);
        due("6 plain is", x.ofFunction(0, 1), 3);
        due("6 plain lets out", x.run(0, 0), 0);
        due("6 above", x.guard(1, 4), ActRows.OUTSIDE);
        due("6 below", x.guard(1, -1), ActRows.OUTSIDE);
        due("6 refused changes nothing", x.ofFunction(1, 1), 3);
        due("6 unknown ahead", x.guard(2, 4), ActRows.UNKNOWN);
        due("6 unknown below", x.guard(-1, 0), ActRows.UNKNOWN);
    }

    private static void live() {
        ActRows x = Checks.with("e;p0abcd");
        due("7 all at first", x.live(10), 15);
        due("7 runs", x.run(0, 0), 1);
        due("7 was", x.live(0), 10);
        due("7 none is live", x.run(0, 0), ActRows.NONE);
        due("7 above", x.live(16), ActRows.OUTSIDE);
        due("7 below", x.live(-1), ActRows.OUTSIDE);
        due("7 refused changes nothing", x.live(8), 0);
        due("7 last", x.run(0, 0), 3);
        due("7 outside ahead of state", new ActRows().live(16), ActRows.OUTSIDE);
        due("7 state", new ActRows().live(15), ActRows.STATE);
    }
}
