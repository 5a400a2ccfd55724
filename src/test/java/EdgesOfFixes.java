/** Boundaries that promises 17 to 22 name: bearing, clear, fix, may, fairway, kept. */
final class EdgesOfFixes {
    private EdgesOfFixes() {
    }

    // ---- 17

    /** "BEYOND." */
    static void promise17Beyond() {
        Edge x = Edge.coast("bearing").bounds("bearing(#, 0, 0)", 0, 4);
        x.bounds("bearing(0, #, 0)", 0, 15).bounds("bearing(0, 0, #)", 0, 15);
        Edge.sea("no LIGHT").refused("bearing(0, 0, 0)", Due.BEYOND);
    }

    /** "FULL: there are 8". */
    static void promise17FullThereAre8() {
        Edge x = Edge.coast("BEARINGS");
        for (int i = 3; i <= 7; i++) {
            x.then("bearing(" + i % 5 + ", 0, 15)", i);
        }
        x.tries("bearing(0, 8, 8)", 8).then("bearing(3, 0, 15)", 8).tells("all(2)", 8);
        x.refused("bearing(0, 8, 8)", Due.FULL).refused("bearing(0, 0, 15)", Due.FULL);
        x.then("undo()", 15).then("bearing(4, 8, 8)", 8).refused("bearing(4, 8, 8)", Due.FULL);
        x.then("clear()", 8).then("bearing(0, 8, 8)", 1);
    }

    /** BEYOND is asked ahead of FULL. */
    static void promise17FindingsInOrder() {
        Edge x = Edge.sea("8 BEARINGS").lights(1, 0);
        for (int i = 1; i <= 8; i++) {
            x.then("bearing(0, 0, 15)", i);
        }
        x.refused("bearing(1, 0, 15)", Due.BEYOND).refused("bearing(0, 16, 15)", Due.BEYOND).refused("bearing(0, 0, 16)", Due.BEYOND);
        x.refused("bearing(0, 0, 15)", Due.FULL);
    }

    // ---- 18

    /** "All BEARINGS go: how many there were": none, one, 8. */
    static void promise18HowManyThereWere() {
        Edge x = Edge.sea("clear").lights(1, 0).then("clear()", 0).tells("all(2)", 0).then("bearing(0, 4, 4)", 1);
        x.then("clear()", 1).tells("all(2)", 0).tells("fix(false)", 256);
        for (int i = 1; i <= 8; i++) {
            x.then("bearing(0, 4, 4)", i);
        }
        x.tells("fix(false)", 1).then("clear()", 8).tells("all(2)", 0).tells("fix(false)", 256).then("clear()", 0);
    }

    // ---- 19

    /** "NONE: there is none (least)": with no CELL, with one, with all. */
    static void promise19NoneThereIsNone() {
        Edge none = Edge.sea("no CELL").light("FW", 0, 0, 1).light("FW", 0, 255, 1).does("bearing(0, 0, 15)", "bearing(1, 0, 15)");
        none.tells("fix(false)", 0).refused("fix(true)", Due.NONE);
        Edge one = Edge.sea("one CELL").light("FW", 0, 255, 1).does("haze(1)", "bearing(0, 0, 15)");
        one.tells("fix(false)", 1).tells("fix(true)", 255);
        Edge.sea("all").tells("fix(false)", 256).tells("fix(true)", 0);
    }

    /** "(least: the least of them)": the first CELL of all, and the one behind it. */
    static void promise19TheLeastOfThem() {
        Edge.sea("CELL 0").light("FW", 0, 1, 1).does("bearing(0, 4, 4)").tells("fix(false)", 2).tells("fix(true)", 0);
        Edge.sea("CELL 1").light("FW", 0, 1, 1).does("bearing(0, 12, 12)").tells("fix(false)", 2).tells("fix(true)", 1);
    }

    // ---- 20

    /** "BEYOND." */
    static void promise20Beyond() {
        Edge.coast("may").bounds("may(#)", 0, 255);
        Edge.sea("the whole SEA").tells("may(0)", 1).tells("may(255)", 1).refused("may(256)", Due.BEYOND).refused("may(-1)", Due.BEYOND);
    }

    /** "Whether a CELL is in FIX: 1, 0": at the REACH, a CELL nearer, a CELL farther. */
    static void promise20WhetherACellIsInFix() {
        Edge.sea("may").light("FW", 0, Due.cell(15, 0), 6).does("haze(2)", "bearing(0, 4, 4)")
            .tells("may(15)", 1).tells("may(14)", 1).tells("may(12)", 1).tells("may(11)", 1).tells("may(10)", 0)
            .tells("may(" + Due.cell(14, 1) + ")", 0).tells("may(" + Due.cell(13, 1) + ")", 0)
            .tells("may(" + Due.cell(12, 1) + ")", 1).tells("may(" + Due.cell(11, 1) + ")", 0).tells("fix(false)", 6);
    }

    // ---- 21

    /** "BEYOND." */
    static void promise21Beyond() {
        Edge.coast("fairway").bounds("fairway(#, true)", 0, 255).bounds("fairway(#, false)", 0, 255);
    }

    private static Edge twelve(String name) {
        Edge x = Edge.coast(name);
        for (int i = 3; i <= 12; i++) {
            x.then("fairway(" + (200 + i) + ", true)", i);
        }
        return x;
    }

    /** "FULL: there are 12". */
    static void promise21FullThereAre12() {
        Edge x = twelve("FAIRWAY").tells("all(3)", 12);
        x.refused("fairway(0, true)", Due.FULL).refused("fairway(255, true)", Due.FULL);
        x.then("undo()", 15).tells("all(3)", 11).tries("fairway(0, true)", 12).then("fairway(0, true)", 12);
        x.refused("fairway(1, true)", Due.FULL).then("fairway(100, false)", 11).then("fairway(1, true)", 12);
        x.refused("fairway(100, true)", Due.FULL);
    }

    /** A CELL that is of it already takes no room, and one that goes needs none: no FULL. */
    static void promise21NoRoomIsNeeded() {
        Edge x = twelve("FAIRWAY").tries("fairway(212, true)", 12).tries("fairway(100, true)", 12);
        x.tries("fairway(0, false)", 12).tries("fairway(212, false)", 11).tries("fairway(100, false)", 11);
        Edge.sea("none").then("fairway(0, false)", 0).then("fairway(0, true)", 1).then("fairway(0, true)", 1).then("fairway(0, false)", 0);
    }

    /** BEYOND is asked ahead of FULL. */
    static void promise21FindingsInOrder() {
        twelve("FAIRWAY").refused("fairway(256, true)", Due.BEYOND).refused("fairway(-1, true)", Due.BEYOND)
            .refused("fairway(256, false)", Due.BEYOND);
    }

    // ---- 22

    /** "NONE: there is no such set": no CELLS of THE FAIRWAY, and CELLS with none, one, two LIGHTS. */
    static void promise22NoneThereIsNoSuchSet() {
        Edge x = Edge.sea("kept").tells("kept()", 0).does("fairway(7, true)").refused("kept()", Due.NONE);
        x.does("fairway(7, false)").lights(2, 0).tells("kept()", 0).does("fairway(7, true)").refused("kept()", Due.NONE);
        x.does("fairway(7, false)", "fairway(1, true)").tells("kept()", 3).does("haze(1)").refused("kept()", Due.NONE);
        x.does("haze(0)", "word(1, 0, 0, true)").refused("kept()", Due.NONE).does("day(1)").tells("kept()", 3);
    }

    /** "KEPT, as bits": 10 LIGHTS of which all, or the first two, or the last two must be kept. */
    static void promise22AsBits() {
        Edge all = Edge.sea("all").does("fairway(0, true)", "fairway(4, true)", "fairway(8, true)", "fairway(12, true)", "fairway(64, true)");
        Edge twelve = Edge.sea("12 CELLS");
        for (int i = 0; i < 5; i++) {
            int cell = i < 4 ? 4 * i : 64;
            all.light("FW", 0, cell, 1).light("FW", 0, cell, 1);
        }
        all.tells("kept()", 1023).does("fairway(12, false)").tells("kept()", 1023 - 192);
        for (int i = 0; i < 12; i++) {
            twelve.does("fairway(" + i + ", true)");
        }
        twelve.light("FW", 0, 0, 10).light("FW", 0, 0, 11).refused("kept()", Due.NONE).light("FW", 0, 11, 1).tells("kept()", 7);
        twelve.light("FW", 0, 0, 11).tells("kept()", 10);
    }
}
