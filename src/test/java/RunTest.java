/** Promises 8 to 11: runs, the acts performed in them, paths and days. */
public final class RunTest {
    private static final Checks CHECKS = new Checks();
    private static final int NONE = ActRows.NONE;

    private static void due(String what, long got, long want) {
        CHECKS.due(what, got, want);
    }

    public static void main(String[] args) {
        plainLeavingKeeping();
        widest();
        performed();
        path();
        runRefusals();
        days();
        dayRefusals();
        dayWrongs();
        CHECKS.end();
    }

    private static void ran(ActRows x, int f, int out, int acts, int ends, int path) {
        due("8 out of " + f, x.run(f, 0), out);
        due("8 performed in " + f, x.run(f, 1), acts);
        due("8 finished in " + f, x.run(f, 2), ends);
        due("8 path of " + f, x.run(f, 3), path);
    }

    private static void plainLeavingKeeping() {
        ActRows x = Checks.with("e;p0abc");
        ran(x, 0, 0, 1, 1, 1);
        x.live(6);
        ran(x, 0, 1, 1, 1, 1);
        x.live(8);
        ran(x, 0, NONE, 0, 1, 0);
        ran(Checks.with("e;l0abc"), 0, NONE, 1, 1, 0);
        ran(Checks.with("e;l1abc"), 0, 0, 1, 1, 1);
        ran(Checks.with("e;k0aabc"), 0, 1, 3, 1, 1);
        ran(Checks.with("e;k1abc"), 0, 0, 1, 1, 1);
        ran(Checks.with("e;k0aaaa"), 0, NONE, 4, 1, 0);
        ran(Checks.with("e;p0"), 0, NONE, 0, 1, 0);
        // a leaving one that is called leaves off itself, not the one that called it
        ran(Checks.with("e;l0ab;p00c"), 1, 2, 2, 2, 1);
        // a guard against what came out of a called one
        ran(Checks.with("e;p0b;k1000c"), 1, 2, 4, 4, 1);
        ran(Checks.with("e;p0b;l1000c"), 1, NONE, 1, 2, 0);
        // an act that is not live is no act to leave off at
        ActRows y = Checks.with("e;l0abc");
        y.live(14);
        ran(y, 0, 1, 1, 1, 1);
    }

    private static void widest() {
        ActRows x = Checks.with("e;k0aaaa;p00000;p01111;p02222;p03333");
        ran(x, 4, NONE, 1024, 341, 0);
        due("9 last of all", x.performed(4, 1023), 0);
        due("9 beyond all", x.performed(4, 1024), NONE);
        x.patch(0, 3, 1);
        ran(x, 4, 1, 4, 5, 5);
        for (int k = 0; k < 5; k++) {
            due("10 deepest " + k, x.path(4, k), 4 - k);
        }
    }

    private static void acts(ActRows x, int f, int... acts) {
        for (int k = 0; k < acts.length; k++) {
            due("9 act " + k + " of " + f, x.performed(f, k), acts[k]);
        }
        due("9 no more of " + f, x.performed(f, acts.length), NONE);
        due("9 far beyond of " + f, x.performed(f, Integer.MAX_VALUE), NONE);
    }

    private static void performed() {
        ActRows x = Checks.with("e;k0aba;l1c0b;k20da1;k32201");
        // 0: a, then b comes out. 1: c comes out. 2: 0 lets b out. 3: 2 lets b out.
        acts(x, 0, 0, 1);
        acts(x, 1, 2);
        acts(x, 2, 0, 1);
        acts(x, 3, 0, 1);
        x.guard(2, 1);
        acts(x, 2, 0, 1, 3);
        x.guard(3, 3);
        // 3: 2 lets d out, twice kept, then 0 lets b out
        acts(x, 3, 0, 1, 3, 0, 1, 3, 0, 1);
        x.live(4);
        // 2: just 1 performs c, that comes out of it
        acts(x, 2, 2);
        x.live(0);
        acts(x, 3);
        due("9 unknown ahead", x.performed(4, -1), ActRows.UNKNOWN);
        due("9 unknown below", x.performed(-1, 0), ActRows.UNKNOWN);
        due("9 outside", x.performed(0, -1), ActRows.OUTSIDE);
        due("9 far outside", x.performed(0, Integer.MIN_VALUE), ActRows.OUTSIDE);
    }

    private static void path() {
        ActRows x = Checks.with("e;p0a;p0b;k001;p0200");
        // 2 keeps behind what comes out of 0 and lets out what comes out of 1
        due("10 first", x.path(3, 0), 3);
        due("10 second", x.path(3, 1), 2);
        due("10 third", x.path(3, 2), 1);
        due("10 fourth", x.path(3, 3), NONE);
        due("10 fifth", x.path(3, 4), NONE);
        due("10 length", x.run(3, 3), 3);
        x.live(1);
        // nothing comes out of 2, then a out of 0
        due("10 other second", x.path(3, 1), 0);
        due("10 other third", x.path(3, 2), NONE);
        due("10 nothing out", x.path(2, 0), NONE);
        due("10 nothing out, length", x.run(2, 3), 0);
        due("10 outside above", x.path(0, 5), ActRows.OUTSIDE);
        due("10 outside below", x.path(0, -1), ActRows.OUTSIDE);
        due("10 unknown ahead", x.path(4, 5), ActRows.UNKNOWN);
        due("10 unknown below", x.path(-1, 0), ActRows.UNKNOWN);
    }

    private static void runRefusals() {
        ActRows x = Checks.with("e;p0a");
        due("8 outside above", x.run(0, 4), ActRows.OUTSIDE);
        due("8 outside below", x.run(0, -1), ActRows.OUTSIDE);
        due("8 unknown ahead", x.run(1, 4), ActRows.UNKNOWN);
        due("8 unknown below", x.run(-1, 0), ActRows.UNKNOWN);
    }

    private static void day(ActRows x, int n, int what, int want) {
        due("11 day of " + n + ", " + what, x.day(1, 2, 1, n, what), want);
    }

    private static void days() {
        ActRows x = Checks.with("e;l0ab;k100b;p0c");
        // Cell 0 is no part of the day: runs of 0 and 1, just d is live, 2 guards against d,
        // run of 1, 0 guards against c, just c is live, runs of 0 and 2.
        Checks.write(x, 1, 2, 99, 0, 0, 0, 1, 8, 5, 3, 8, 0, 1, 2, 6, 4, 5, 0, 0, 0, 2);
        int[][] due = {
            // acts, first wrong, ends, live, rows, guards of 0 to 4
            {0, NONE, 0, 15, 6, 0, 1, 0, NONE, NONE},
            {1, NONE, 1, 15, 6, 0, 1, 0, NONE, NONE},
            {4, NONE, 4, 15, 6, 0, 1, 0, NONE, NONE},
            {4, NONE, 4, 8, 6, 0, 1, 0, NONE, NONE},
            {4, NONE, 4, 8, 6, 0, 1, 3, NONE, NONE},
            {4, NONE, 7, 8, 6, 0, 1, 3, NONE, NONE},
            {4, NONE, 7, 8, 7, 2, 1, 3, NONE, NONE},
            {4, NONE, 7, 4, 7, 2, 1, 3, NONE, NONE},
            {4, NONE, 8, 4, 7, 2, 1, 3, NONE, NONE},
            {-108, 8, -108, -108, -108, -108, -108, -108, -108, -108},
        };
        for (int n = 0; n < due.length; n++) {
            for (int what = 0; what < 5; what++) {
                day(x, n, what, due[n][what]);
                day(x, n, 10 + what, due[n][5 + what]);
            }
        }
        due("11 nothing is changed: live", x.live(0), 15);
        due("11 nothing is changed: guard of 0", x.ofFunction(0, 1), 0);
        due("11 nothing is changed: guard of 2", x.ofFunction(2, 1), 0);
        x.guard(1, 2);
        day(x, 0, 3, 0);
        day(x, 0, 11, 2);
        day(x, 2, 0, 0);
        day(x, 2, 2, 4);
        day(x, 2, 1, NONE);
    }

    private static void dayRefusals() {
        ActRows none = new ActRows();
        due("11 state ahead of null", none.day(0, 0, 0, 0, 0), ActRows.STATE);
        due("11 outside ahead of state", none.day(0, 3, 0, 0, 0), ActRows.OUTSIDE);
        ActRows x = Checks.with("e;p0");
        Checks.write(x, 1, 1, new int[5]);
        due("11 unknown ahead", x.day(4, 3, 0, -1, 9), ActRows.UNKNOWN);
        due("11 unknown below", x.day(-1, 0, 0, 0, 0), ActRows.UNKNOWN);
        due("11 lane", x.day(1, 3, 0, 0, 0), ActRows.OUTSIDE);
        due("11 lane below", x.day(1, -1, 0, 0, 0), ActRows.OUTSIDE);
        due("11 n above", x.day(1, 1, 0, 21, 0), ActRows.OUTSIDE);
        due("11 n below", x.day(1, 1, 0, -1, 0), ActRows.OUTSIDE);
        for (int what : new int[] {-1, 5, 9, 15}) {
            due("11 what " + what, x.day(1, 2, 0, 0, what), ActRows.OUTSIDE);
        }
        due("11 refused: no fault", x.fault(), 0);
        due("11 cast", x.day(1, 2, -1, 0, 0), -12);
        due("11 cast fault", x.fault(), 2);
        due("11 null", x.day(0, 2, -1, 0, 0), -11);
        due("11 null fault", x.fault(), 1);
        due("11 index below", x.day(1, 1, -1, 0, 0), -13);
        due("11 index fault", x.fault(), 3);
        due("11 index at the end", x.day(1, 1, 5, 0, 0), 0);
        due("11 no fault", x.fault(), 0);
        due("11 index above", x.day(1, 1, 6, 0, 0), -13);
        due("11 half a pair", x.day(1, 1, 4, 1, 0), -13);
        due("11 two pairs", x.day(1, 1, 1, 2, 2), 2);
        due("11 three pairs", x.day(1, 1, 0, 3, 0), -13);
        due("11 far", x.day(1, 1, Integer.MAX_VALUE, 20, 0), -13);
        Checks.write(x, 2, 0, new int[40]);
        due("11 most pairs", x.day(2, 0, 0, 20, 2), 20);
    }

    private static void pair(ActRows x, int first, int second, int want) {
        Checks.write(x, 3, 2, first, second);
        due("11 pair " + first + " " + second, x.day(3, 2, 0, 1, 1), want);
    }

    private static void dayWrongs() {
        ActRows x = Checks.with("e;p0;p0a");
        for (int f = 0; f < 5; f++) {
            pair(x, 0, f, f == 0 ? NONE : 0);
            pair(x, 1, f, ActRows.OUTSIDE);
            pair(x, -1, f, ActRows.OUTSIDE);
            pair(x, 0, 6 + f, f < 2 ? NONE : 0);
            pair(x, 3, 6 + f, f < 2 ? NONE : 0);
            pair(x, 4, 6 + f, ActRows.OUTSIDE);
            pair(x, -1, 6 + f, ActRows.OUTSIDE);
        }
        pair(x, 0, 5, NONE);
        pair(x, 15, 5, NONE);
        pair(x, 16, 5, ActRows.OUTSIDE);
        pair(x, -1, 5, ActRows.OUTSIDE);
        pair(x, 0, 11, ActRows.OUTSIDE);
        pair(x, 0, -1, ActRows.OUTSIDE);
        due("11 refused pair: no fault", x.fault(), 0);
        // a pair that is not as told is refused, behind a wrong one, too
        Checks.write(x, 3, 2, 0, 0, 0, 1, 0, 11);
        due("11 wrong", x.day(3, 2, 0, 2, 0), -101);
        due("11 refused ahead of wrong", x.day(3, 2, 0, 3, 0), ActRows.OUTSIDE);
        Checks.write(x, 3, 2, 0, 9, 0, 1);
        for (int what : new int[] {0, 2, 3, 4, 10, 13, 14}) {
            due("11 wrong, asked " + what, x.day(3, 2, 0, 2, what), -100);
        }
        due("11 wrong, asked which", x.day(3, 2, 0, 2, 1), 0);
        due("11 wrong is no fault", x.fault(), 0);
    }
}
