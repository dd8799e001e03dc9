/** Promises 22 to 32: sheets, bodies, faults and how many there are. */
public final class SheetTest {
    private static final Checks CHECKS = new Checks();

    private static void due(String what, long got, long want) {
        CHECKS.due(what, got, want);
    }

    public static void main(String[] args) {
        sheet();
        lose();
        put();
        cell();
        copy();
        copyRefusals();
        tell();
        name();
        as();
        fault();
        many();
        constants();
        CHECKS.end();
    }

    private static void sheet() {
        ActRows x = new ActRows();
        for (int k = 0; k < 4; k++) {
            due("22 new row " + k, x.sheet(k, k % 3, 60), 1);
            due("22 last cell " + k, x.cell(k, 59, k % 3), 0);
            due("22 beyond " + k, x.cell(k, 60, k % 3), ActRows.LOST);
        }
        x.put(0, 3, 7);
        due("22 row without cells", x.sheet(0, 1, 0), 1);
        due("22 no cell", x.cell(0, 0, 1), ActRows.LOST);
        due("22 no cell fault", x.fault(), 3);
        due("22 anew", x.sheet(0, 2, 5), 1);
        due("22 0 at first", x.cell(0, 3, 2), 0);
        x.put(0, 4, 9);
        due("22 unknown ahead", x.sheet(4, 3, 61), ActRows.UNKNOWN);
        due("22 unknown below", x.sheet(-1, 0, 1), ActRows.UNKNOWN);
        due("22 lane above", x.sheet(0, 3, -1), ActRows.OUTSIDE);
        due("22 lane below", x.sheet(0, -1, -1), ActRows.OUTSIDE);
        due("22 n above", x.sheet(0, 0, 61), ActRows.OUTSIDE);
        due("22 refused: no fault", x.fault(), 0);
        due("22 size", x.sheet(0, 0, -1), -14);
        due("22 size fault", x.fault(), 4);
        due("22 least size", x.sheet(0, 0, Integer.MIN_VALUE), -14);
        due("22 refused changes nothing", x.cell(0, 4, 2), 9);
    }

    private static void lose() {
        ActRows x = new ActRows();
        x.sheet(3, 0, 0);
        due("23 had a row", x.lose(3), 1);
        due("23 had nothing", x.lose(3), 0);
        due("23 put", x.put(3, 0, 0), -11);
        due("23 lose names no fault", x.lose(3), 0);
        due("23 fault stays", x.fault(), 1);
        due("23 above", x.lose(4), ActRows.UNKNOWN);
        due("23 below", x.lose(-1), ActRows.UNKNOWN);
        due("23 fault stays by a refusal", x.fault(), 1);
        x.sheet(3, 2, 2);
        due("23 a new row", x.cell(3, 1, 2), 0);
    }

    private static void put() {
        ActRows x = new ActRows();
        int[] given = {127, 128, -129, 256, 32768, -32769, 65536, Integer.MAX_VALUE, Integer.MIN_VALUE};
        for (int lane = 0; lane < 3; lane++) {
            x.sheet(lane, lane, given.length);
            for (int i = 0; i < given.length; i++) {
                due("24 put", x.put(lane, i, given[i]), 1);
                long cut = lane == 0 ? (byte) given[i] : lane == 1 ? (short) given[i] : given[i];
                due("24 cut to lane " + lane, x.cell(lane, i, lane), cut);
            }
        }
        due("24 last", x.put(0, 8, 1), 1);
        due("24 index above", x.put(0, 9, 1), -13);
        due("24 index fault", x.fault(), 3);
        due("24 index below", x.put(0, -1, 1), -13);
        due("24 index far", x.put(0, Integer.MAX_VALUE, 1), -13);
        due("24 null ahead of index", x.put(3, -1, 1), -11);
        due("24 null fault", x.fault(), 1);
        due("24 unknown above", x.put(4, 0, 1), ActRows.UNKNOWN);
        due("24 unknown: no fault", x.fault(), 0);
        due("24 unknown below", x.put(-1, 0, 1), ActRows.UNKNOWN);
    }

    private static void cell() {
        ActRows x = new ActRows();
        Checks.write(x, 1, 1, 5, -6);
        due("25 cell", x.cell(1, 1, 1), -6);
        due("25 no fault", x.fault(), 0);
        due("25 cast ahead of index", x.cell(1, 2, 0), ActRows.LOST);
        due("25 cast fault", x.fault(), 2);
        due("25 null is no cast", x.cell(0, 2, 0), ActRows.LOST);
        due("25 null fault", x.fault(), 1);
        due("25 index above", x.cell(1, 2, 1), ActRows.LOST);
        due("25 index fault", x.fault(), 3);
        due("25 lane", x.cell(1, 0, 3), ActRows.LOST);
        due("25 lane: no fault", x.fault(), 0);
        due("25 index below", x.cell(1, -1, 1), ActRows.LOST);
        due("25 index fault below", x.fault(), 3);
        due("25 unknown", x.cell(4, 0, 1), ActRows.LOST);
        due("25 unknown: no fault", x.fault(), 0);
        due("25 unknown below", x.cell(-1, 0, 1), ActRows.LOST);
        due("25 lane below", x.cell(1, 0, -1), ActRows.LOST);
    }

    private static void cells(ActRows x, int k, int lane, int... want) {
        for (int i = 0; i < want.length; i++) {
            due("26 cell " + i + " of " + k, x.cell(k, i, lane), want[i]);
        }
    }

    private static void copy() {
        ActRows x = new ActRows();
        Checks.write(x, 0, 0, 1, 2, 3, 4, 5);
        Checks.write(x, 1, 0, 9, 9, 9);
        due("26 to another one", x.copy(0, 2, 1, 0, 3), 3);
        cells(x, 1, 0, 3, 4, 5);
        cells(x, 0, 0, 1, 2, 3, 4, 5);
        due("26 up in the same", x.copy(0, 0, 0, 1, 4), 4);
        cells(x, 0, 0, 1, 1, 2, 3, 4);
        due("26 down in the same", x.copy(0, 1, 0, 0, 4), 4);
        cells(x, 0, 0, 1, 2, 3, 4, 4);
        due("26 none at the ends", x.copy(0, 5, 1, 3, 0), 0);
        due("26 no fault", x.fault(), 0);
    }

    private static void copyRefusals() {
        ActRows x = new ActRows();
        Checks.write(x, 0, 0, 1, 2, 3, 4, 5);
        Checks.write(x, 1, 0, 9, 9, 9);
        Checks.write(x, 2, 1, 9, 9, 9);
        due("26 unknown first", x.copy(4, 0, 3, 0, 0), ActRows.UNKNOWN);
        due("26 unknown other", x.copy(3, 0, 4, 0, 0), ActRows.UNKNOWN);
        due("26 below", x.copy(-1, 0, 0, 0, 0), ActRows.UNKNOWN);
        due("26 other below", x.copy(0, 0, -1, 0, 0), ActRows.UNKNOWN);
        due("26 unknown: no fault", x.fault(), 0);
        due("26 null first", x.copy(3, -1, 0, 0, 0), -11);
        due("26 null fault", x.fault(), 1);
        due("26 null other", x.copy(0, -1, 3, 0, 0), -11);
        due("26 cast ahead of index", x.copy(0, -1, 2, 0, 0), -12);
        due("26 cast fault", x.fault(), 2);
        int[][] beyond = {
            {-1, 0, 1}, {0, -1, 1}, {0, 0, -1}, {6, 0, 0}, {0, 4, 0}, {3, 0, 3}, {0, 1, 3}, {0, 0, 4},
            {5, 3, 1}, {1, 1, Integer.MAX_VALUE}, {Integer.MAX_VALUE, 0, Integer.MAX_VALUE},
            {Integer.MIN_VALUE, 0, 0}, {0, Integer.MIN_VALUE, 0}, {0, 0, Integer.MIN_VALUE}
        };
        for (int[] b : beyond) {
            due("26 index", x.copy(0, b[0], 1, b[1], b[2]), -13);
            due("26 index fault", x.fault(), 3);
        }
        cells(x, 1, 0, 9, 9, 9);
    }

    private static int traced(int before, int... numbers) {
        int trace = before;
        for (int number : numbers) {
            trace = 31 * trace + number;
        }
        return trace;
    }

    private static void tell() {
        ActRows x = Checks.with("e;p0abc;l0ab;k0d;k0abcd");
        due("27 plain", x.tell(0), 3);
        int trace = traced(0, 1);
        due("30 plain", x.trace(), trace);
        due("27 leaving", x.tell(1), 102);
        trace = traced(trace, 2, 1);
        due("30 leaving", x.trace(), trace);
        due("27 keeping", x.tell(2), 102);
        trace = traced(trace, 3, 2, 1, 1);
        due("30 keeping", x.trace(), trace);
        due("27 keeping 4", x.tell(3), 108);
        trace = traced(trace, 3, 2, 1, 1);
        due("30 wraps", x.trace(), trace);
        due("27 above", x.tell(4), ActRows.UNKNOWN);
        due("27 below", x.tell(-1), ActRows.UNKNOWN);
        due("30 refused: stays", x.trace(), trace);
    }

    private static void name() {
        ActRows x = Checks.with("e;p0abc;k0ab;l0d;p0");
        due("28 plain", x.name(0), 0);
        due("28 keeping", x.name(1), 60);
        due("28 leaving", x.name(2), 2);
        due("28 plain 3", x.name(3), 3);
        int trace = traced(0, 4, 5, 4, 4);
        due("30 names", x.trace(), trace);
        due("28 above", x.name(4), ActRows.UNKNOWN);
        due("28 below", x.name(-1), ActRows.UNKNOWN);
        due("30 refused: stays", x.trace(), trace);
    }

    private static void as() {
        ActRows x = Checks.with("e;p0;l0;k0");
        for (int f = 0; f < 3; f++) {
            for (int kind = 0; kind < 3; kind++) {
                due("29 " + f + " as " + kind, x.as(f, kind), kind <= f ? 1 : -12);
                due("29 fault", x.fault(), kind <= f ? 0 : 2);
            }
            due("29 above", x.as(f, 3), ActRows.OUTSIDE);
            due("29 outside: no fault", x.fault(), 0);
            due("29 below", x.as(f, -1), ActRows.OUTSIDE);
        }
        x.as(0, 2);
        due("29 unknown ahead", x.as(3, 3), ActRows.UNKNOWN);
        due("29 unknown: no fault", x.fault(), 0);
        due("29 unknown below", x.as(-1, 0), ActRows.UNKNOWN);
        due("30 as leaves nothing", x.trace(), 0);
    }

    /** Brings the fault INDEX, then one call, behind which fault() is asked. */
    private static void behindFault(String what, ActRows x, Runnable call, int want) {
        x.put(1, 5, 0);
        call.run();
        due("31 behind " + what, x.fault(), want);
    }

    private static void fault() {
        ActRows x = Checks.with("e;p0a");
        Checks.write(x, 1, 2, 0, 5);
        behindFault("put", x, () -> x.put(1, 0, 0), 0);
        behindFault("sheet", x, () -> x.sheet(2, 0, 1), 0);
        behindFault("cell", x, () -> x.cell(1, 0, 2), 0);
        behindFault("copy", x, () -> x.copy(1, 0, 1, 1, 1), 0);
        behindFault("as", x, () -> x.as(0, 0), 0);
        behindFault("program", x, () -> x.program(1, 2, 0, 1), 0);
        x.put(1, 1, 5);
        behindFault("day", x, () -> x.day(1, 2, 0, 1, 0), 0);
        behindFault("refused program", x, () -> x.program(9, 0, 0, 0), 0);
        behindFault("refused day", x, () -> x.day(9, 0, 0, 0, 0), 0);
        behindFault("refused sheet", x, () -> x.sheet(9, 0, 0), 0);
        behindFault("refused copy", x, () -> x.copy(9, 0, 0, 0, 0), 0);
        behindFault("ofFunction", x, () -> x.ofFunction(9, 9), 3);
        behindFault("step", x, () -> x.step(9, 9), 3);
        behindFault("patch", x, () -> x.patch(9, 9, 9), 3);
        behindFault("guard", x, () -> x.guard(9, 9), 3);
        behindFault("live", x, () -> x.live(99), 3);
        behindFault("run", x, () -> x.run(0, 0), 3);
        behindFault("performed", x, () -> x.performed(0, 0), 3);
        behindFault("path", x, () -> x.path(0, 0), 3);
        behindFault("witness", x, () -> x.witness(0, 0), 3);
        behindFault("free", x, () -> x.free(0, 0), 3);
        behindFault("plugs", x, () -> x.plugs(0), 3);
        behindFault("more", x, () -> x.more(0, 0), 3);
        behindFault("reading", x, () -> x.reading(0, 0), 3);
        behindFault("back", x, () -> x.back(0), 3);
        behindFault("kinds", x, () -> x.kinds(0), 3);
        behindFault("guards", x, () -> x.guards(0), 3);
        behindFault("lives", x, () -> x.lives(), 3);
        behindFault("odds", x, () -> x.odds(0, 0, 0), 3);
        behindFault("lose", x, () -> x.lose(2), 3);
        behindFault("tell", x, () -> x.tell(0), 3);
        behindFault("name", x, () -> x.name(0), 3);
        behindFault("trace", x, () -> x.trace(), 3);
        behindFault("fault", x, () -> x.fault(), 3);
        behindFault("many", x, () -> x.many(0), 3);
    }

    private static void many() {
        ActRows x = Checks.with("e;p0a;l1b;k2cd;p0");
        int[] due = {4, 4, 4, 2, 0};
        for (int what = 0; what < 5; what++) {
            due("32 many " + what, x.many(what), due[what]);
        }
        x.live(6);
        due("32 live", x.many(2), 2);
        due("32 that let out", x.many(3), 0);
        x.guard(1, 0);
        due("32 that let out now", x.many(3), 1);
        x.reading(0, 0);
        due("32 readings", x.many(4), 1);
        due("32 above", x.many(5), ActRows.OUTSIDE);
        due("32 below", x.many(-1), ActRows.OUTSIDE);
        due("32 without a program", new ActRows().many(5), ActRows.OUTSIDE);
    }

    private static void constants() {
        due("UNKNOWN", ActRows.UNKNOWN, -1);
        due("OUTSIDE", ActRows.OUTSIDE, -2);
        due("STATE", ActRows.STATE, -3);
        due("FULL", ActRows.FULL, -4);
        due("NONE", ActRows.NONE, -9);
        due("LOST", ActRows.LOST, Long.MIN_VALUE);
    }
}
