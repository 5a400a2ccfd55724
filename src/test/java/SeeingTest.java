/** Promises 9 to 16: DIRECTIONS, COLOURS, what is SEEN, HAZE, THE DAY, TOLD APART, fits. */
public final class SeeingTest {
    public static void main(String[] args) {
        direction();
        colour();
        seen();
        haze();
        day();
        apart();
        allApart();
        fits();
        Due.end();
    }

    private static void step(int x, int y, int want) {
        CoastLights sea = new CoastLights();
        int from = Due.cell(8, 8);
        int to = Due.cell(8 + x, 8 + y);
        Due.due("9: step (" + x + ", " + y + ")", sea.direction(from, to), want);
        Due.due("9: and back", sea.direction(to, from), (want + 8) % 16);
    }

    private static void direction() {
        int[][] steps = {{0, 1}, {1, 2}, {1, 1}, {2, 1}, {1, 0}, {2, -1}, {1, -1}, {1, -2}};
        for (int d = 0; d < 8; d++) {
            for (int far = 1; far <= 3; far++) {
                step(steps[d][0] * far, steps[d][1] * far, d);
            }
        }
        step(1, 3, 0);
        step(1, 7, 0);
        step(2, 3, 1);
        step(6, 7, 1);
        step(3, 2, 2);
        step(7, 4, 2);
        step(3, 1, 3);
        step(7, 1, 3);
        step(7, -1, 4);
        step(3, -1, 4);
        step(3, -2, 5);
        step(7, -6, 5);
        step(2, -3, 6);
        step(6, -7, 6);
        step(1, -3, 7);
        step(1, -8, 7);
        CoastLights x = new CoastLights();
        Due.due("9: far", x.direction(0, 255), 2);
        Due.due("9: far, by a little", x.direction(0, 254), 1);
        Due.due("9: one CELL", x.direction(7, 7), Due.SIZE);
        Due.due("9: from -1", x.direction(-1, 0), Due.BEYOND);
        Due.due("9: from 256", x.direction(256, 0), Due.BEYOND);
        Due.due("9: to -1", x.direction(0, -1), Due.BEYOND);
        Due.due("9: to 256", x.direction(0, 256), Due.BEYOND);
        Due.due("9: BEYOND ahead of SIZE", x.direction(256, 256), Due.BEYOND);
    }

    private static void colour() {
        CoastLights x = new CoastLights();
        int here = Due.cell(8, 8);
        int north = Due.cell(8, 9);
        int east = Due.cell(9, 8);
        int south = Due.cell(8, 7);
        int west = Due.cell(7, 8);
        Due.due("10: no LIGHT", x.colour(0, 0), Due.BEYOND);
        Due.light(x, "FR", 0, here, 1);
        Due.light(x, "FG", 3, here, 1);
        Due.due("10: its own", x.colour(0, north), 1);
        Due.due("10: its own, unseen", x.colour(0, 0), 1);
        Due.due("10: a TOWER is dark", x.colour(1, north), 3);
        Due.due("10: but in its CELL", x.colour(1, here), 2);
        x.sector(0, 12, 4, 2);
        Due.due("10: over the turn", x.colour(0, north), 2);
        Due.due("10: the first with", x.colour(0, west), 2);
        Due.due("10: the last with", x.colour(0, east), 2);
        Due.due("10: outside", x.colour(0, south), 1);
        x.sector(0, 0, 0, 3);
        Due.due("10: the latest told", x.colour(0, north), 3);
        Due.due("10: one behind its only DIRECTION", x.colour(0, Due.cell(9, 10)), 2);
        x.sector(0, 15, 1, 0);
        Due.due("10: a later one", x.colour(0, north), 0);
        x.sector(0, 4, 3, 3);
        Due.due("10: all round", x.colour(0, south), 3);
        Due.due("10: its own CELL has none", x.colour(0, here), 1);
        x.sector(1, 8, 8, 1);
        Due.due("10: a TOWER's SECTOR", x.colour(1, south), 1);
        Due.due("10: beside it", x.colour(1, north), 3);
        Due.due("10: cell -1", x.colour(0, -1), Due.BEYOND);
        Due.due("10: cell 256", x.colour(0, 256), Due.BEYOND);
        Due.due("10: light 2", x.colour(2, 0), Due.BEYOND);
        x.word(0, 99, 0, true);
        Due.due("10: OUT or not", x.colour(0, Due.cell(8, 6)), 3);
    }

    private static void seen() {
        CoastLights x = new CoastLights();
        Due.due("11: none", x.seen(0), 0);
        Due.light(x, "FW", 0, Due.cell(0, 0), 5);
        Due.light(x, "FW", 0, Due.cell(4, 3), 1);
        Due.light(x, "FW", 3, Due.cell(4, 4), 15);
        Due.due("11: just at the RANGE", x.seen(Due.cell(3, 4)), 1);
        Due.due("11: from (4, 3)", x.seen(Due.cell(4, 3)), 3);
        Due.due("11: from (4, 4)", x.seen(Due.cell(4, 4)), 6);
        Due.due("11: beyond it", x.seen(Due.cell(5, 1)), 0);
        Due.due("11: not by each", x.seen(Due.cell(5, 4)), 0);
        x.haze(15);
        Due.due("11: REACH 0 in its CELL", x.seen(Due.cell(4, 3)), 2);
        Due.due("11: REACH 0 beside it", x.seen(Due.cell(1, 0)), 0);
        x.haze(0);
        x.sector(0, 2, 2, 3);
        Due.due("11: a dark SECTOR", x.seen(Due.cell(1, 1)), 0);
        Due.due("11: its own CELL is not dark", x.seen(0), 1);
        x.word(0, 305, 10, true);
        Due.due("11: day 0", x.seen(0), 1);
        x.day(3);
        Due.due("11: OUT on day 3", x.seen(0), 0);
        x.word(0, 404, 10, false);
        x.day(4);
        Due.due("11: burns on day 4", x.seen(0), 1);
        x.day(5);
        Due.due("11: OUT on day 5", x.seen(0), 0);
        x.day(6);
        Due.due("11: burns on day 6", x.seen(0), 1);
        Due.due("11: cell -1", x.seen(-1), Due.BEYOND);
        Due.due("11: cell 256", x.seen(256), Due.BEYOND);
    }

    private static void haze() {
        CoastLights x = new CoastLights();
        Due.light(x, "FW", 0, 0, 5);
        Due.due("12: 15", x.haze(15), 0);
        Due.due("12: 16", x.haze(16), Due.BEYOND);
        Due.due("12: -1", x.haze(-1), Due.BEYOND);
        Due.due("12: 2", x.haze(2), 15);
        Due.due("12: within REACH 3", x.seen(3), 1);
        Due.due("12: beyond REACH 3", x.seen(4), 0);
        Due.due("12: 0", x.haze(0), 2);
        Due.due("12: RANGE stays", x.lightIs(0, 2), 5);
    }

    private static void day() {
        CoastLights x = new CoastLights();
        Due.due("13: 19", x.day(19), 0);
        Due.due("13: 20", x.day(20), Due.BEYOND);
        Due.due("13: -1", x.day(-1), Due.BEYOND);
        Due.due("13: 0", x.day(0), 19);
    }

    private static int apartOf(String a, String b) {
        CoastLights x = new CoastLights();
        Due.light(x, a, 0, 0, 1);
        Due.light(x, b, 0, 0, 1);
        int there = x.apart(0, 1);
        Due.due("14: both ways " + a + " " + b, x.apart(1, 0), there);
        return there;
    }

    private static void apart() {
        Due.due("14: F, Iso of 2", apartOf("FW", "IsoW2s"), 2);
        Due.due("14: F, Iso of 30", apartOf("FW", "IsoW30s"), 16);
        Due.due("14: F, Oc of 30", apartOf("FW", "OcW30s"), 30);
        Due.due("14: F, Fl", apartOf("FW", "FlW5s"), 2);
        Due.due("14: F, F", apartOf("FW", "FR"), Due.NONE);
        Due.due("14: Q as Fl", apartOf("Q(3)W9s", "Fl(3)G9s"), Due.NONE);
        Due.due("14: Oc of 2 is Fl of 2", apartOf("OcW2s", "FlW2s"), Due.NONE);
        Due.due("14: twice as long", apartOf("FlW2s", "Fl(2)W4s"), Due.NONE);
        Due.due("14: begun later", apartOf("Oc(2)W4s", "Fl(4)W8s"), Due.NONE);
        Due.due("14: 29 and 30", apartOf("FlW29s", "FlW30s"), 58);
        Due.due("14: 15 and 30", apartOf("FlW15s", "FlW30s"), 30);
        CoastLights x = new CoastLights();
        Due.due("14: no LIGHT", x.apart(0, 0), Due.BEYOND);
        Due.light(x, "FW", 0, 0, 1);
        Due.due("14: one", x.apart(0, 0), Due.SIZE);
        Due.due("14: light 1", x.apart(0, 1), Due.BEYOND);
        Due.due("14: light -1", x.apart(-1, 0), Due.BEYOND);
    }

    private static void allApart() {
        CoastLights x = new CoastLights();
        Due.due("15: none of none", x.allApart(0), 1);
        Due.due("15: others", x.allApart(1), Due.BEYOND);
        Due.light(x, "FW", 0, 0, 1);
        Due.light(x, "FlW29s", 0, 0, 1);
        Due.light(x, "FlW30s", 0, 0, 1);
        Due.light(x, "FR", 0, 0, 1);
        Due.due("15: one", x.allApart(4), 1);
        Due.due("15: two", x.allApart(3), 2);
        Due.due("15: three", x.allApart(7), 58);
        Due.due("15: never", x.allApart(9), Due.NONE);
        Due.due("15: some never", x.allApart(15), Due.NONE);
        Due.due("15: others too", x.allApart(16), Due.BEYOND);
        Due.due("15: others ahead of NONE", x.allApart(31), Due.BEYOND);
        Due.due("15: -1", x.allApart(-1), Due.BEYOND);
        Due.due("15: MIN", x.allApart(Due.MIN), Due.BEYOND);
    }

    private static void fits() {
        CoastLights x = new CoastLights();
        Due.due("16: MISSING", x.fits(0), Due.MISSING);
        Due.due("16: sheet -1", x.fits(-1), Due.BEYOND);
        Due.due("16: sheet 4", x.fits(4), Due.BEYOND);
        Due.light(x, "FW", 0, 0, 1);
        Due.light(x, "FlW3s", 0, 0, 1);
        Due.light(x, "IsoW4s", 0, 0, 1);
        Due.light(x, "OcW30s", 0, 0, 1);
        x.sheet(3, 32, 0);
        Due.due("16: nothing seen", x.fits(3), 15);
        Due.sheet(x, 3, 32, 1);
        Due.due("16: light", x.fits(3), 15);
        Due.sheet(x, 3, 32, 0);
        Due.due("16: dark", x.fits(3), 14);
        Due.sheet(x, 3, 32, -5, 300);
        Due.due("16: any number is light", x.fits(3), 13);
        Due.sheet(x, 3, 8, 256, 256);
        Due.due("16: but for its bits", x.fits(3), 6);
        Due.sheet(x, 3, 16, 0, 1, 0);
        Due.due("16: over the turn", x.fits(3), 2);
        Due.sheet(x, 3, 16, 0, 0, 1, 1, 0, 0, 1, 1);
        Due.due("16: more than a PERIOD", x.fits(3), 4);
        x.sheet(0, 8, 30);
        for (int i = 0; i < 29; i++) {
            x.put(0, i, 1);
        }
        Due.due("16: 30 seconds", x.fits(0), 8);
        x.put(0, 29, 1);
        Due.due("16: 30 of light", x.fits(0), 1);
        Due.due("16: a LIGHT goes", x.undo(), 3);
        Due.due("16: undo leaves sheets", x.fits(0), 1);
    }
}
