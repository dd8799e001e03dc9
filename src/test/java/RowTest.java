/** Promises 12 to 21: what may come out, and what follows from what came out. */
public final class RowTest {
    private static final Checks CHECKS = new Checks();
    private static final int NONE = ActRows.NONE;

    private static void due(String what, long got, long want) {
        CHECKS.due(what, got, want);
    }

    public static void main(String[] args) {
        witness();
        free();
        plugs();
        more();
        readings();
        kinds();
        guards();
        lives();
        odds();
        whatWasTriedIsGone();
        CHECKS.end();
    }

    private static void witness() {
        ActRows x = Checks.with("e;k0abcd;p10b;l2cd");
        int[][] due = {{NONE, 2, 4, 8}, {NONE, 2, 4, 8}, {NONE, NONE, NONE, 8}};
        x.live(0);
        for (int f = 0; f < 3; f++) {
            for (int act = 0; act < 4; act++) {
                due("12 witness " + f + " " + act, x.witness(f, act), due[f][act]);
            }
        }
        due("12 live stays", x.live(0), 0);
        x.guard(0, 3);
        due("12 new guard", x.witness(1, 0), 1);
        due("12 new guard, out", x.witness(1, 3), NONE);
        due("12 above", x.witness(0, 4), ActRows.OUTSIDE);
        due("12 below", x.witness(0, -1), ActRows.OUTSIDE);
        due("12 unknown ahead", x.witness(3, 4), ActRows.UNKNOWN);
        due("12 unknown below", x.witness(-1, 0), ActRows.UNKNOWN);
    }

    private static void free() {
        ActRows x = Checks.with("e;p0a;p0b;p0a;p0;l0ab");
        due("13 itself", x.free(0, 0), 1);
        due("13 unlike", x.free(0, 1), 0);
        due("13 unlike, turned", x.free(1, 0), 0);
        due("13 alike", x.free(0, 2), 1);
        due("13 nothing", x.free(3, 1), 1);
        // by a alone, 4 lets nothing out, by b alone it lets b out, by both nothing
        due("13 never at once", x.free(0, 4), 1);
        due("13 the same act", x.free(1, 4), 1);
        x.live(1);
        due("13 by each set, not by what is live", x.free(0, 1), 0);
        due("13 live stays", x.live(1), 1);
        due("13 unknown first", x.free(5, 0), ActRows.UNKNOWN);
        due("13 unknown second", x.free(0, 5), ActRows.UNKNOWN);
        due("13 below", x.free(-1, 0), ActRows.UNKNOWN);
        due("13 second below", x.free(0, -1), ActRows.UNKNOWN);
    }

    private static void plugs() {
        due("14 none is needed", Checks.with("e;p0").plugs(0), 0);
        due("14 one", Checks.with("e;p0aa").plugs(0), 1);
        due("14 two acts in one", Checks.with("e;p0ab").plugs(0), NONE);
        due("14 a called one and this", Checks.with("e;p0a;p00b").plugs(1), 2);
        due("14 the same act", Checks.with("e;p0a;p00a").plugs(1), 1);
        due("14 a leaving one helps", Checks.with("e;l0ab;p00").plugs(1), 0);
        due("14 guard of a keeping one turned", Checks.with("e;k1a").plugs(0), 1);
        // 1 leaves at a; 0 keeps behind a and lets b out, unless its guard is turned
        due("14 turned away from what it keeps", Checks.with("e;k0ab;l00ccc").plugs(1), 1);
        due("14 three", Checks.with("e;p0a;p0b;p0c;p0012").plugs(3), 3);
        due("14 four", Checks.with("e;p0a;p0b;p0c;p0d;p00123").plugs(4), 4);
        due("14 let through to the last", Checks.with("e;p0a;p00b;p01c;p02d;p03a").plugs(4), 1);
        due("14 let through to the second", Checks.with("e;p0a;p00b;p01c;p02d;p03b").plugs(4), 2);
        // 3 keeps behind a, 4 behind the d that comes then
        due("14 kept for another act", Checks.with("e;p0a;p00b;p01c;p02d;p03d").plugs(4), 2);
        ActRows x = Checks.with("e;p0ab;p0cd");
        x.live(1);
        due("14 by what is live now", x.plugs(0), 1);
        due("14 nothing is live of it", x.plugs(1), 0);
        x.live(12);
        due("14 both of it", x.plugs(1), NONE);
        due("14 kind stays", x.ofFunction(0, 0), 0);
        due("14 guard stays", x.ofFunction(1, 1), 0);
        due("14 unknown", x.plugs(2), ActRows.UNKNOWN);
        due("14 unknown below", x.plugs(-1), ActRows.UNKNOWN);
    }

    private static void more() {
        ActRows x = Checks.with("e;p0a;p0b;p0;p0abcd;l0ab");
        due("15 itself", x.more(3, 3), 0);
        due("15 a, not b", x.more(0, 1), 8);
        due("15 nothing", x.more(2, 3), 0);
        due("15 all but none", x.more(3, 2), 15);
        due("15 a first", x.more(3, 0), 7);
        due("15 a is a", x.more(0, 3), 0);
        due("15 left off", x.more(4, 1), 0);
        due("15 not left off", x.more(1, 4), 4);
        x.live(0);
        due("15 whatever is live", x.more(3, 2), 15);
        due("15 live stays", x.live(0), 0);
        due("15 unknown first", x.more(5, 0), ActRows.UNKNOWN);
        due("15 unknown second", x.more(0, 5), ActRows.UNKNOWN);
        due("15 below", x.more(-1, 0), ActRows.UNKNOWN);
        due("15 second below", x.more(0, -1), ActRows.UNKNOWN);
    }

    private static void readings() {
        ActRows x = Checks.with("e;p0a;l1b");
        for (int k = 0; k < 8; k++) {
            due("16 number " + k, x.reading(k % 2, k % 5), k);
        }
        due("16 full", x.reading(0, 0), ActRows.FULL);
        due("16 outside ahead of full", x.reading(0, 5), ActRows.OUTSIDE);
        due("16 below", x.reading(0, -1), ActRows.OUTSIDE);
        due("16 unknown ahead of outside", x.reading(2, 5), ActRows.UNKNOWN);
        due("16 unknown below", x.reading(-1, 0), ActRows.UNKNOWN);
        due("16 eight", x.many(4), 8);
        due("17 too many", x.back(9), ActRows.OUTSIDE);
        due("17 below", x.back(-1), ActRows.OUTSIDE);
        due("17 none", x.back(0), 8);
        due("17 three", x.back(3), 5);
        due("17 many", x.many(4), 5);
        due("16 number behind", x.reading(0, 4), 5);
        due("17 all", x.back(6), 0);
        due("17 no more", x.back(1), ActRows.OUTSIDE);
        due("17 all are taken back", x.kinds(1), 7);
        x.reading(0, 0);
        x.reading(0, 4);
        due("17 last ones: both", x.lives(), 0);
        x.back(1);
        due("17 last ones: the first is left", x.lives(), 0xAAAA);
    }

    private static void kinds() {
        ActRows x = Checks.with("e;p0ab;k0a0b");
        due("18 all", x.kinds(0), 7);
        x.reading(0, 0);
        due("18 plain", x.kinds(0), 1);
        due("18 of another one", x.kinds(1), 7);
        x.back(1);
        x.reading(0, 4);
        due("18 leaving", x.kinds(0), 2);
        x.back(1);
        x.reading(0, 1);
        due("18 keeping", x.kinds(0), 4);
        x.reading(0, 0);
        due("18 none", x.kinds(0), 0);
        x.back(2);
        x.reading(1, 0);
        due("18 plain alone", x.kinds(1), 1);
        due("18 by a called one", x.kinds(0), 0);
        x.back(1);
        x.reading(1, 1);
        due("18 of a called one", x.kinds(0), 7);
        due("18 kind stays", x.ofFunction(0, 0), 0);
        // as all is now
        x.back(1);
        x.reading(0, 1);
        x.live(2);
        due("18 as all is now", x.kinds(0), 7);
        x.live(15);
        x.guard(0, 3);
        due("18 by the guard now", x.kinds(0), 0);
        due("18 unknown", x.kinds(2), ActRows.UNKNOWN);
        due("18 unknown below", x.kinds(-1), ActRows.UNKNOWN);
    }

    private static void guards() {
        ActRows x = Checks.with("e;l0abc;k00d");
        due("19 all", x.guards(0), 15);
        x.reading(0, 4);
        due("19 against a", x.guards(0), 1);
        x.back(1);
        x.reading(0, 0);
        due("19 others", x.guards(0), 14);
        due("19 by another one", x.guards(1), 0);
        x.back(1);
        x.reading(1, 3);
        due("19 kept", x.guards(1), 7);
        due("19 of the called one", x.guards(0), 15);
        x.reading(1, 2);
        due("19 none", x.guards(1), 0);
        x.back(2);
        x.reading(0, 2);
        x.live(12);
        due("19 as all is now", x.guards(0), 11);
        due("19 guard stays", x.ofFunction(0, 1), 0);
        ActRows plain = Checks.with("e;p0a");
        plain.reading(0, 0);
        due("19 plain", plain.guards(0), 15);
        plain.reading(0, 4);
        due("19 plain, none", plain.guards(0), 0);
        due("19 unknown", plain.guards(1), ActRows.UNKNOWN);
        due("19 unknown below", plain.guards(-1), ActRows.UNKNOWN);
    }

    private static void lives() {
        ActRows x = Checks.with("e;p0a;p0b;l1bd");
        due("20 all", x.lives(), 65535);
        x.reading(0, 4);
        due("20 without a", x.lives(), 0x5555);
        x.reading(1, 1);
        due("20 without a, with b", x.lives(), 0x4444);
        x.reading(2, 3);
        due("20 none", x.lives(), 0);
        x.back(2);
        x.reading(2, 3);
        due("20 with d, without a and b", x.lives(), 0x1100);
        x.patch(2, 1, 0);
        due("20 as all is now", x.lives(), 0);
        due("20 live stays", x.live(15), 15);
        due("20 state", new ActRows().lives(), ActRows.STATE);
    }

    private static void share(ActRows x, int f, int out, int upper, int lower) {
        due("21 upper " + f + " " + out, x.odds(f, out, 0), upper);
        due("21 lower " + f + " " + out, x.odds(f, out, 1), lower);
    }

    private static void odds() {
        ActRows x = Checks.with("e;p0abcd;l0ab;p0");
        x.live(0);
        share(x, 0, 0, 1, 2);
        share(x, 0, 1, 1, 4);
        share(x, 0, 2, 1, 8);
        share(x, 0, 3, 1, 16);
        share(x, 0, 4, 1, 16);
        share(x, 1, 0, 0, 1);
        share(x, 1, 1, 1, 4);
        share(x, 1, 4, 3, 4);
        share(x, 2, 4, 1, 1);
        share(x, 2, 0, 0, 1);
        due("21 live stays", x.live(0), 0);
        due("21 unknown", x.odds(3, 0, 0), ActRows.LOST);
        due("21 unknown below", x.odds(-1, 0, 0), ActRows.LOST);
        due("21 out above", x.odds(0, 5, 0), ActRows.LOST);
        due("21 out below", x.odds(0, -1, 0), ActRows.LOST);
        due("21 which above", x.odds(0, 0, 2), ActRows.LOST);
        due("21 which below", x.odds(0, 0, -1), ActRows.LOST);
    }

    /** A call that tries functions otherwise than they are leaves nothing of that to the next. */
    private static void whatWasTriedIsGone() {
        ActRows x = Checks.with("e;p0ab");
        x.reading(0, 0);
        x.kinds(0);
        due("20 behind kinds", x.lives(), 0xAAAA);
        x.kinds(0);
        due("3 may behind kinds", x.ofFunction(0, 4), 3);
        x.kinds(0);
        due("3 row behind kinds", x.ofFunction(0, 3), 3);
        x.plugs(0);
        due("8 behind plugs", x.run(0, 0), 0);
        x.lives();
        due("8 behind lives", x.run(0, 0), 0);
        ActRows y = Checks.with("e;p0;p0d");
        due("3 row of the longer one", y.ofFunction(1, 3), 8);
        Checks.take(y, "e;p0a");
        Checks.write(y, 1, 2, 0, 5);
        due("11 rows of the shorter one", y.day(1, 2, 0, 1, 4), 1);
    }
}
