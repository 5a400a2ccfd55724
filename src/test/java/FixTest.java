/** Promises 17 to 22: BEARINGS, FIX, THE FAIRWAY, KEPT. */
public final class FixTest {
    public static void main(String[] args) {
        bearing();
        clear();
        fix();
        doubtfulFix();
        may();
        fairway();
        kept();
        Due.end();
    }

    private static void bearing() {
        CoastLights x = new CoastLights();
        Due.due("17: no LIGHT", x.bearing(0, 0, 0), Due.BEYOND);
        Due.light(x, "FW", 0, 0, 1);
        Due.due("17: from -1", x.bearing(0, -1, 0), Due.BEYOND);
        Due.due("17: from 16", x.bearing(0, 16, 0), Due.BEYOND);
        Due.due("17: to -1", x.bearing(0, 0, -1), Due.BEYOND);
        Due.due("17: to 16", x.bearing(0, 0, 16), Due.BEYOND);
        Due.due("17: light -1", x.bearing(-1, 0, 0), Due.BEYOND);
        for (int i = 1; i <= 8; i++) {
            Due.due("17: bearing " + i, x.bearing(0, 0, 15), i);
        }
        Due.due("17: a ninth", x.bearing(0, 0, 15), Due.FULL);
        Due.due("17: BEYOND ahead of FULL", x.bearing(1, 0, 15), Due.BEYOND);
        Due.due("17: there are 8", x.all(2), 8);
    }

    private static void clear() {
        CoastLights x = new CoastLights();
        Due.due("18: none", x.clear(), 0);
        Due.light(x, "FW", 0, 0, 1);
        x.bearing(0, 8, 8);
        x.bearing(0, 8, 8);
        Due.due("18: two", x.clear(), 2);
        Due.due("18: all go", x.all(2), 0);
        Due.due("18: the whole SEA", x.fix(false), 256);
        Due.due("18: again", x.clear(), 0);
    }

    private static void fix() {
        CoastLights x = new CoastLights();
        Due.due("19: least of all", x.fix(true), 0);
        Due.light(x, "FW", 0, Due.cell(8, 8), 2);
        x.bearing(0, 0, 0);
        Due.due("19: due south, its CELL with", x.fix(false), 3);
        Due.due("19: the least", x.fix(true), Due.cell(8, 6));
        x.haze(1);
        Due.due("19: HAZE", x.fix(true), Due.cell(8, 7));
        x.haze(2);
        Due.due("19: its own CELL alone", x.fix(false), 1);
        Due.due("19: that", x.fix(true), Due.cell(8, 8));
        x.haze(0);
        x.bearing(0, 8, 8);
        Due.due("19: both ways: its CELL", x.fix(true), Due.cell(8, 8));
        Due.light(x, "FW", 0, Due.cell(0, 0), 3);
        x.bearing(1, 0, 15);
        Due.due("19: none", x.fix(false), 0);
        Due.due("19: none least", x.fix(true), Due.NONE);
        x.clear();
        x.bearing(0, 14, 2);
        Due.due("19: over the turn", x.fix(false), 5);
        x.word(0, 99, 0, true);
        x.sector(0, 0, 15, 3);
        Due.due("19: dark and OUT are not looked at", x.fix(false), 5);
    }

    private static void doubtfulFix() {
        CoastLights x = new CoastLights();
        Due.light(x, "FW", 2, Due.cell(0, 0), 1);
        x.bearing(0, 12, 12);
        Due.due("19: no DOUBT", x.fix(false), 2);
        x.doubt(0, 1);
        // West of (0..2, 0..1) by one, or in one of the four CELLS.
        Due.due("19: DOUBT 1, in THE SEA", x.fix(false), 6);
        Due.due("19: west of (1, 1)", x.may(Due.cell(2, 1)), 1);
        Due.due("19: not (3, 1)", x.may(Due.cell(3, 1)), 0);
        x.doubt(0, 3);
        Due.due("19: DOUBT 3", x.fix(false), 20);
        CoastLights y = new CoastLights();
        Due.light(y, "FW", 2, Due.cell(15, 15), 1);
        y.doubt(0, 3);
        y.bearing(0, 4, 4);
        Due.due("19: at the other corner", y.fix(false), 20);
        Due.due("19: the least there", y.fix(true), Due.cell(11, 12));
        CoastLights z = new CoastLights();
        Due.light(z, "FW", 2, Due.cell(8, 8), 1);
        z.doubt(0, 1);
        z.bearing(0, 0, 0);
        z.bearing(0, 8, 8);
        Due.due("19: each BEARING by a CELL of its own", z.fix(false), 9);
    }

    private static void may() {
        CoastLights x = new CoastLights();
        Due.due("20: without BEARINGS", x.may(255), 1);
        Due.light(x, "FW", 0, Due.cell(8, 8), 2);
        x.bearing(0, 4, 4);
        Due.due("20: west of it", x.may(Due.cell(7, 8)), 1);
        Due.due("20: its own CELL", x.may(Due.cell(8, 8)), 1);
        Due.due("20: at its REACH", x.may(Due.cell(6, 8)), 1);
        Due.due("20: too far", x.may(Due.cell(5, 8)), 0);
        Due.due("20: east of it", x.may(Due.cell(9, 8)), 0);
        Due.due("20: cell -1", x.may(-1), Due.BEYOND);
        Due.due("20: cell 256", x.may(256), Due.BEYOND);
        x.undo();
        Due.due("20: taken back", x.may(Due.cell(9, 8)), 1);
    }

    private static void fairway() {
        CoastLights x = new CoastLights();
        Due.due("21: cell -1", x.fairway(-1, true), Due.BEYOND);
        Due.due("21: cell 256", x.fairway(256, false), Due.BEYOND);
        Due.due("21: none to leave", x.fairway(5, false), 0);
        for (int i = 1; i <= 12; i++) {
            Due.due("21: cell " + i, x.fairway(20 * i, true), i);
            Due.due("21: again " + i, x.fairway(20 * i, true), i);
        }
        Due.due("21: a thirteenth", x.fairway(1, true), Due.FULL);
        Due.due("21: one that is, when full", x.fairway(20, true), 12);
        Due.due("21: no more", x.fairway(20, false), 11);
        Due.due("21: there is room", x.fairway(1, true), 12);
        Due.due("21: all(3)", x.all(3), 12);
        Due.due("21: one that was none", x.fairway(2, false), 12);
    }

    private static void kept() {
        CoastLights x = new CoastLights();
        Due.due("22: no FAIRWAY", x.kept(), 0);
        x.fairway(0, true);
        Due.due("22: no LIGHTS", x.kept(), Due.NONE);
        Due.light(x, "FW", 0, Due.cell(0, 0), 2);
        Due.due("22: one is too few", x.kept(), Due.NONE);
        Due.light(x, "FW", 0, Due.cell(2, 0), 2);
        Due.due("22: two", x.kept(), 3);
        Due.light(x, "FW", 0, Due.cell(1, 0), 15);
        Due.light(x, "FW", 0, Due.cell(1, 1), 15);
        Due.due("22: the least as bits", x.kept(), 3);
        x.fairway(4, true);
        Due.due("22: the fewest, the least as bits", x.kept(), 6);
        x.fairway(255, true);
        Due.due("22: too far", x.kept(), Due.NONE);
        x.fairway(255, false);
        x.word(1, 0, 0, true);
        Due.due("22: OUT on THE DAY", x.kept(), 12);
        x.day(1);
        Due.due("22: on another one", x.kept(), 6);
        x.haze(14);
        Due.due("22: in HAZE", x.kept(), Due.NONE);
        x.fairway(4, false);
        Due.due("22: in HAZE, one CELL", x.kept(), 5);
        fewestOfMany();
    }

    private static void fewestOfMany() {
        CoastLights x = new CoastLights();
        // 0 and 1 are seen from one CELL each only; 2, 3 and 4 from both.
        Due.light(x, "FW", 0, Due.cell(0, 0), 1);
        Due.light(x, "FW", 0, Due.cell(15, 0), 1);
        Due.light(x, "FW", 0, Due.cell(7, 0), 15);
        x.fairway(Due.cell(0, 0), true);
        x.fairway(Due.cell(15, 0), true);
        Due.due("22: three", x.kept(), 7);
        Due.light(x, "FW", 0, Due.cell(8, 0), 15);
        Due.due("22: two of higher bits are fewer", x.kept(), 12);
        Due.light(x, "FW", 0, Due.cell(8, 0), 15);
        Due.due("22: still these", x.kept(), 12);
        x.sector(3, 12, 12, 3);
        Due.due("22: a dark SECTOR", x.kept(), 20);
    }
}
