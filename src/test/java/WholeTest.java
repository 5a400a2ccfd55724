/** Promises 34 and 35: undo, and the whole. */
public final class WholeTest {
    public static void main(String[] args) {
        eachActIsUndone();
        whatIsNotUndone();
        sixteenAreKept();
        changedNothing();
        clearIsUndone();
        theTapeStays();
        all();
        Due.end();
    }

    private static CoastLights coast() {
        CoastLights x = new CoastLights();
        Due.light(x, "FW", 0, Due.cell(8, 8), 9);
        Due.light(x, "FW", 1, Due.cell(3, 3), 9);
        Due.light(x, "FW", 2, Due.cell(5, 12), 9);
        return x;
    }

    private static void eachActIsUndone() {
        CoastLights x = coast();
        Due.light(x, "IsoR4s", 3, 0, 1);
        Due.due("34: light", x.undo(), 3);
        Due.due("34: it is gone", x.lightIs(3, 0), Due.BEYOND);
        Due.light(x, "IsoR4s", 3, 0, 1);
        x.sector(3, 0, 15, 2);
        x.limit(3, 9);
        x.keeper(3, 9);
        for (int left = 6; left >= 3; left--) {
            Due.due("34: back to " + left, x.undo(), left);
        }
        Due.light(x, "FW", 1, 0, 1);
        Due.due("34: a new one has no SECTORS", x.lightIs(3, 6), 0);
        Due.due("34: its keeper is there since 0", x.keeper(3, 5), 0);
        Due.due("34: its LIMIT is 4", x.limit(3, 5), 4);
        x.undo();
        Due.due("34: keeper and limit", x.limit(3, 4), 4);
        x.sector(0, 0, 0, 3);
        x.sector(0, 0, 0, 2);
        Due.due("34: sector told", x.colour(0, Due.cell(8, 9)), 2);
        x.undo();
        Due.due("34: sector", x.colour(0, Due.cell(8, 9)), 3);
        x.undo();
        Due.due("34: both", x.colour(0, Due.cell(8, 9)), 0);
        x.doubt(2, 3);
        x.undo();
        Due.due("34: doubt", x.lightIs(2, 7), 0);
        x.haze(7);
        x.undo();
        Due.due("34: haze", x.haze(0), 0);
        x.day(7);
        x.undo();
        Due.due("34: day", x.day(0), 0);
        x.bearing(0, 0, 0);
        x.undo();
        Due.due("34: bearing", x.fix(false), 256);
        x.fairway(0, true);
        x.undo();
        Due.due("34: fairway", x.all(3), 0);
        x.word(0, 99, 5, true);
        x.undo();
        Due.due("34: word", x.out(0, 0, 999), 0);
        Due.due("34: and its HOUR", x.word(0, 99, 4, true), 1);
        x.fairway(9, true);
        x.fairway(9, false);
        x.undo();
        Due.due("34: fairway left", x.all(3), 1);
        x.sheet(0, 8, 20);
        for (int i = 0; i < 20; i++) {
            x.put(0, i, 9);
        }
        int before = x.overdue();
        x.seas(0);
        Due.due("34: seas told", x.overdue(), before + 15);
        x.undo();
        Due.due("34: seas", x.overdue(), before);
    }

    private static void whatIsNotUndone() {
        CoastLights x = coast();
        x.sheet(0, 8, 1);
        x.put(0, 0, 1);
        x.copy(0, 0, 0, 0, 1);
        x.feed(1, 'F');
        x.light(0, 0, 1);
        x.haze(99);
        x.as(0, 0);
        x.seen(0);
        x.kept();
        x.fix(false);
        x.overdue();
        x.all(0);
        Due.due("34: the LIGHT ahead of these", x.undo(), 2);
        Due.due("34: it was the third", x.all(0), 2);
        Due.due("34: a sheet stays", x.put(0, 0, 0), 0);
    }

    private static void sixteenAreKept() {
        CoastLights x = new CoastLights();
        for (int i = 0; i < 40; i++) {
            x.haze(i % 16);
        }
        for (int left = 15; left >= 0; left--) {
            Due.due("34: of 16", x.undo(), left);
        }
        Due.due("34: no more", x.undo(), Due.NONE);
        Due.due("34: as it was ahead of these", x.haze(0), 23 % 16);
        Due.due("34: one more", x.undo(), 0);
    }

    private static void changedNothing() {
        CoastLights x = new CoastLights();
        x.haze(0);
        x.clear();
        x.fairway(3, false);
        x.sheet(0, 8, 0);
        x.seas(0);
        for (int left = 3; left >= 0; left--) {
            Due.due("34: also such as changed nothing", x.undo(), left);
        }
        Due.due("34: that was all", x.undo(), Due.NONE);
        x.fairway(3, true);
        x.fairway(3, true);
        x.undo();
        Due.due("34: told twice, undone once", x.all(3), 1);
    }

    private static void clearIsUndone() {
        CoastLights x = coast();
        x.bearing(0, 2, 4);
        x.bearing(1, 9, 12);
        int count = x.fix(false);
        int least = x.fix(true);
        x.clear();
        x.bearing(2, 0, 15);
        x.bearing(2, 3, 3);
        x.bearing(2, 4, 4);
        for (int i = 0; i < 3; i++) {
            x.undo();
        }
        Due.due("34: cleared again", x.all(2), 0);
        x.undo();
        Due.due("34: clear", x.all(2), 2);
        Due.due("34: the same FIX", x.fix(false), count);
        Due.due("34: with the same least", x.fix(true), least);
    }

    private static void theTapeStays() {
        CoastLights x = new CoastLights();
        Due.light(x, "FW", 0, 0, 1);
        Due.feed(x, "FR");
        Due.due("34: light undone", x.undo(), 0);
        Due.due("34: THE TAPE is not of the coast", x.all(5), 2);
        Due.due("34: it is as it was", x.light(0, 0, 1), 0);
        Due.due("34: red", x.lightIs(0, 3), 1);
    }

    private static void all() {
        CoastLights x = coast();
        Due.light(x, "FW", 3, 0, 1);
        x.bearing(0, 0, 0);
        x.fairway(1, true);
        x.fairway(2, true);
        x.fairway(3, true);
        x.word(0, 0, 0, true);
        x.word(0, 0, 0, true);
        x.feed(5, 0);
        int[] want = {4, 2, 1, 3, 2, 5, 0};
        for (int what = 0; what < 7; what++) {
            Due.due("35: all(" + what + ")", x.all(what), want[what]);
        }
        Due.due("35: all(7)", x.all(7), Due.BEYOND);
        Due.due("35: it counts", x.all(6), 1);
        Due.due("35: all(-1)", x.all(-1), Due.BEYOND);
        x.landing(19);
        Due.due("35: NONE counts", x.all(6), 3);
        x.light(0, 0, 1);
        Due.due("35: a FAULT does not", x.all(6), 3);
        x.undo();
        Due.due("35: ever: undo leaves it", x.all(6), 3);
        for (int i = 0; i < 30; i++) {
            x.undo();
        }
        Due.due("35: undo's own NONE counts", x.all(6), 3 + 30 - 9);
    }
}
