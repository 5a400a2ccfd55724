/** Promises 25 to 30: keepers, LIMITS, SEAS, THE LANDINGS and what proves them. */
public final class KeeperTest {
    public static void main(String[] args) {
        keeper();
        limit();
        seas();
        overdue();
        landing();
        firstOfSeveral();
        proves();
        Due.end();
    }

    private static CoastLights rocks(int... kinds) {
        CoastLights x = new CoastLights();
        for (int kind : kinds) {
            Due.light(x, "FW", kind, 0, 1);
        }
        return x;
    }

    /** SEAS of 9 but on some days. */
    private static void calmOn(CoastLights x, int... days) {
        x.sheet(3, 8, 20);
        for (int d = 0; d < 20; d++) {
            x.put(3, d, 9);
        }
        for (int d : days) {
            x.put(3, d, 0);
        }
        x.seas(3);
    }

    private static void keeper() {
        CoastLights x = rocks(0, 1, 2, 3);
        Due.due("25: a LIGHT", x.keeper(0, 1), Due.KIND);
        Due.due("25: a BUOY", x.keeper(2, 1), Due.KIND);
        Due.due("25: BEYOND ahead of KIND", x.keeper(0, 20), Due.BEYOND);
        Due.due("25: -1", x.keeper(1, -1), Due.BEYOND);
        Due.due("25: 20", x.keeper(1, 20), Due.BEYOND);
        Due.due("25: light 4", x.keeper(4, 0), Due.BEYOND);
        Due.due("25: light -1", x.keeper(-1, 0), Due.BEYOND);
        Due.due("25: a ROCK", x.keeper(1, 19), 0);
        Due.due("25: a TOWER", x.keeper(3, 7), 0);
        Due.due("25: a ROCK again", x.keeper(1, 0), 19);
        Due.due("25: a TOWER again", x.keeper(3, 7), 7);
    }

    private static void limit() {
        CoastLights x = rocks(0, 1, 2, 3);
        Due.due("26: a LIGHT", x.limit(0, 1), Due.KIND);
        Due.due("26: a BUOY", x.limit(2, 1), Due.KIND);
        Due.due("26: BEYOND ahead of KIND", x.limit(0, 10), Due.BEYOND);
        Due.due("26: -1", x.limit(1, -1), Due.BEYOND);
        Due.due("26: 10", x.limit(1, 10), Due.BEYOND);
        Due.due("26: light 4", x.limit(4, 0), Due.BEYOND);
        Due.due("26: a ROCK", x.limit(1, 9), 4);
        Due.due("26: a TOWER", x.limit(3, 0), 4);
        Due.due("26: a ROCK again", x.limit(1, 4), 9);
    }

    private static void seas() {
        CoastLights x = rocks(1);
        Due.due("27: MISSING", x.seas(0), Due.MISSING);
        Due.due("27: sheet -1", x.seas(-1), Due.BEYOND);
        Due.due("27: sheet 4", x.seas(4), Due.BEYOND);
        x.sheet(0, 8, 0);
        Due.due("27: nothing told", x.seas(0), 0);
        x.sheet(0, 8, 30);
        Due.due("27: not behind day 19", x.seas(0), 20);
        Due.sheet(x, 1, 16, 9, 10, -1, 5);
        Due.due("27: not 0 to 9", x.seas(1), 2);
        // LANDED as late as may be: on day 10, unless the SEA is above the LIMIT.
        calmOn(x, 0, 1, 2, 3);
        Due.due("27: on day 3", x.landing(3), 0);
        Due.due("27: again", x.seas(1), 2);
        Due.due("27: day 3 is told", x.landing(3), Due.NONE);
        Due.due("27: 1 and 2 have theirs", x.landing(2), 0);
        x.limit(0, 5);
        Due.due("27: a SEA at its LIMIT", x.landing(3), 0);
        x.limit(0, 4);
        Due.due("27: back again", x.landing(2), 0);
    }

    private static void overdue() {
        CoastLights x = rocks(0, 2);
        Due.due("28: no ROCKS", x.overdue(), 0);
        x = rocks(1);
        Due.due("28: in time", x.overdue(), 0);
        calmOn(x);
        Due.due("28: never LANDED", x.overdue(), 10);
        x.keeper(0, 4);
        Due.due("28: never, since 4", x.overdue(), 6);
        x.keeper(0, 10);
        Due.due("28: never, since 10", x.overdue(), 0);
        x.keeper(0, 19);
        Due.due("28: never, since 19", x.overdue(), 0);
        x.keeper(0, 0);
        calmOn(x, 19);
        Due.due("28: on day 19", x.overdue(), 9);
        calmOn(x, 11, 19);
        Due.due("28: on day 11", x.overdue(), 1);
        x.day(12);
        Due.due("28: from THE DAY on", x.overdue(), 9);
        x = rocks(1, 3, 1);
        calmOn(x, 12, 15);
        x.keeper(1, 3);
        // Of three two can be LANDED: 2 + 5 + 7, or 2 + 2 + 10.
        Due.due("28: two of three", x.overdue(), 14);
        x.limit(0, 9);
        Due.due("28: all three", x.overdue(), 4);
    }

    private static void landing() {
        CoastLights x = rocks(1);
        Due.due("29: -1", x.landing(-1), Due.BEYOND);
        Due.due("29: 20", x.landing(20), Due.BEYOND);
        Due.due("29: as late as may be", x.landing(10), 0);
        for (int d = 0; d < 20; d++) {
            Due.due("29: day " + d, x.landing(d), d == 10 ? 0 : Due.NONE);
        }
        x.day(15);
        Due.due("29: ahead of THE DAY", x.landing(10), Due.NONE);
        Due.due("29: on it", x.landing(15), 0);
        x.keeper(0, 10);
        Due.due("29: none need be", x.landing(15), Due.NONE);
        x.day(0);
        Due.due("29: nor then", x.landing(19), Due.NONE);
    }

    private static void firstOfSeveral() {
        CoastLights x = rocks(1, 0, 3, 1);
        int[] want = {0, 2, 3};
        for (int i = 0; i < 3; i++) {
            Due.due("29: by numbers " + i, x.landing(8 + i), want[i]);
        }
        Due.due("29: none ahead of ROCKS", x.landing(7), Due.NONE);
        x.keeper(0, 1);
        // 0 may wait for day 11: then 2 and 3 are on 9 and 10.
        Due.due("29: day 8", x.landing(8), Due.NONE);
        Due.due("29: day 9", x.landing(9), 2);
        Due.due("29: day 10", x.landing(10), 3);
        Due.due("29: day 11", x.landing(11), 0);
        x.day(19);
        Due.due("29: one day: the least", x.overdue(), 28);
        Due.due("29: the first that has it", x.landing(19), 0);
    }

    private static void proves() {
        CoastLights x = rocks(1, 0, 3);
        Due.due("30: MISSING", x.proves(0), Due.MISSING);
        Due.due("30: sheet -1", x.proves(-1), Due.BEYOND);
        Due.due("30: sheet 4", x.proves(4), Due.BEYOND);
        x.sheet(0, 8, 19);
        Due.due("30: one too few", x.proves(0), Due.SIZE);
        x.sheet(0, 8, 21);
        Due.due("30: one too many", x.proves(0), Due.SIZE);
        x.day(16);
        Due.sheet(x, 0, 8, 0, 2, -1, -1);
        Due.due("30: the least", x.proves(0), -1);
        Due.due("30: -1 is no finding", x.all(6), 5);
        Due.sheet(x, 0, 8, 2, 0, -1, -1);
        Due.due("30: not the first, but proves", x.proves(0), -1);
        Due.sheet(x, 0, 8, 0, -1, 2, -1);
        Due.due("30: a day too many", x.proves(0), 4);
        Due.sheet(x, 0, 8, 0, 1, 2, -1);
        Due.due("30: no ROCK", x.proves(0), 1);
        Due.sheet(x, 0, 8, 0, 3, 2, -1);
        Due.due("30: no LIGHT", x.proves(0), 1);
        Due.sheet(x, 0, 8, 0, -1, -2, -1);
        Due.due("30: -2", x.proves(0), 2);
        Due.sheet(x, 0, 32, 0, Due.MIN, 2, -1);
        Due.due("30: MIN", x.proves(0), 1);
        Due.sheet(x, 0, 32, Due.MAX, 0, 2, -1);
        Due.due("30: MAX", x.proves(0), 0);
        Due.sheet(x, 0, 32, 32, 0, 2, -1);
        Due.due("30: 32", x.proves(0), 0);
        Due.sheet(x, 0, 8, 0, 2, -1, 0);
        Due.due("30: a second time", x.proves(0), 3);
        Due.sheet(x, 0, 8, 255, 0, 2, 255);
        Due.due("30: 255 of 8 bits is -1", x.proves(0), 4);
        Due.sheet(x, 0, 16, 255, 0, 2, 255);
        Due.due("30: 255 of 16 bits is none", x.proves(0), 0);
        calmOn(x, 17, 18);
        Due.sheet(x, 0, 8, 0, 2, -1, -1);
        Due.due("30: SEA above LIMIT", x.proves(0), 0);
        Due.sheet(x, 0, 8, -1, 2, 0, -1);
        Due.due("30: in these SEAS", x.proves(0), -1);
        Due.sheet(x, 0, 8, -1, 2, -1, -1);
        Due.due("30: one is left", x.proves(0), 4);
        calmOn(x);
        Due.sheet(x, 0, 8, -1, -1, -1, -1);
        Due.due("30: none can be", x.proves(0), -1);
    }
}
