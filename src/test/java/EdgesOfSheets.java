/** Boundaries that promises 31 to 35 name: sheet, put, copy, undo, all. */
final class EdgesOfSheets {
    private EdgesOfSheets() {
    }

    // ---- 31

    /** "BEYOND: no such sheet, or bits". */
    static void promise31BeyondSheetOrBits() {
        Edge x = Edge.coast("sheet").bounds("sheet(#, 8, 1)", 0, 3);
        for (int bits : new int[] {-8, -1, 1, 7, 9, 15, 17, 24, 31, 33, 64, Due.MIN, Due.MAX}) {
            x.refused("sheet(0, " + bits + ", 1)", Due.BEYOND);
        }
        x.tries("sheet(0, 0, 1)", 0).tries("sheet(0, 8, 1)", 1).tries("sheet(0, 16, 1)", 1).tries("sheet(0, 32, 1)", 1);
    }

    /** "SIZE: n is below 0. BEYOND: n is above 30". */
    static void promise31SizeAndBeyondN() {
        for (int bits : new int[] {0, 8, 16, 32}) {
            Edge x = Edge.coast("n of " + bits + " bits");
            x.refused("sheet(0, " + bits + ", -1)", Due.SIZE).refused("sheet(0, " + bits + ", MIN)", Due.SIZE);
            x.refused("sheet(0, " + bits + ", 31)", Due.BEYOND).refused("sheet(0, " + bits + ", MAX)", Due.BEYOND);
            for (int n : new int[] {0, 1, 29, 30}) {
                x.tries("sheet(0, " + bits + ", " + n + ")", bits == 0 ? 0 : n);
            }
        }
    }

    /** BEYOND of sheet and bits is asked ahead of SIZE. */
    static void promise31FindingsInOrder() {
        Edge.coast("sheet").refused("sheet(4, 8, -1)", Due.BEYOND).refused("sheet(-1, 8, -1)", Due.BEYOND)
            .refused("sheet(0, 7, -1)", Due.BEYOND).refused("sheet(0, 33, 31)", Due.BEYOND).refused("sheet(4, 0, 0)", Due.BEYOND);
    }

    /** "bits 0: it is MISSING: n (0)"; a sheet without numbers is not. */
    static void promise31Bits0IsMissing() {
        Edge x = Edge.coast("MISSING").then("sheet(0, 0, 0)", 0).refused("fits(0)", Due.MISSING).then("sheet(0, 8, 0)", 0);
        x.tells("fits(0)", 31).refused("put(0, 0, 0)", Due.BEYOND).then("sheet(0, 0, 30)", 0).refused("put(0, 0, 0)", Due.MISSING);
        x.then("sheet(3, 0, 0)", 0).refused("fits(3)", Due.MISSING);
    }

    /** "A sheet has n numbers, all 0": also where others stood, and more of them. */
    static void promise31AllZero() {
        for (int n : new int[] {1, 29, 30}) {
            Edge x = Edge.sea("all 0").light("FlW30s", 0, 0, 1).light("FW", 0, 0, 1);
            x.does("sheet(0, 8, 30)", "put(0, 0, 7)", "put(0, " + (n - 1) + ", 7)", "sheet(0, 16, 1)");
            x.does("sheet(0, 32, " + n + ")", "sheet(1, 32, 1)");
            x.then("copy(0, 0, 1, 0, 1)", 1).tells("fits(1)", 1).then("copy(0, " + (n - 1) + ", 1, 0, 1)", 1).tells("fits(1)", 1);
        }
    }

    // ---- 32

    /** "BEYOND: no such sheet. MISSING. BEYOND: no such number". */
    static void promise32BeyondMissingBeyond() {
        Edge x = Edge.coast("put").tries("put(0, 0, 7)", 0).tries("put(1, 0, 7)", 0).tries("put(2, 0, 7)", 0);
        x.refused("put(3, 0, 7)", Due.MISSING).refused("put(4, 0, 7)", Due.BEYOND).refused("put(-1, 0, 7)", Due.BEYOND);
        x.refused("put(MIN, 0, 7)", Due.BEYOND).refused("put(MAX, 0, 7)", Due.BEYOND);
        x.bounds("put(0, #, 7)", 0, 19).bounds("put(1, #, 7)", 0, 4).bounds("put(2, #, 7)", 0, 3);
        x.does("sheet(3, 8, 0)").refused("put(3, 0, 7)", Due.BEYOND).does("sheet(3, 8, 30)").bounds("put(3, #, 7)", 0, 29);
    }

    /** No such sheet is asked ahead of MISSING, and MISSING ahead of no such number. */
    static void promise32FindingsInOrder() {
        Edge.coast("put").refused("put(4, 99, 7)", Due.BEYOND).refused("put(3, -1, 7)", Due.MISSING).refused("put(3, 30, 7)", Due.MISSING)
            .refused("put(3, MAX, 7)", Due.MISSING);
    }

    /** "Number i of a sheet becomes v (its lowest bits): 0": the greatest that the bits hold, and one more. */
    static void promise32LowestBits() {
        holdsAs(8, 127, 127);
        holdsAs(8, 128, -128);
        holdsAs(8, 255, -1);
        holdsAs(8, 256, 0);
        holdsAs(8, 257, 1);
        holdsAs(8, -128, -128);
        holdsAs(8, -129, 127);
        holdsAs(8, Due.MIN, 0);
        holdsAs(8, Due.MAX, -1);
        holdsAs(16, 255, 255);
        holdsAs(16, 32767, 32767);
        holdsAs(16, 32768, -32768);
        holdsAs(16, 65535, -1);
        holdsAs(16, 65536, 0);
        holdsAs(16, 65537, 1);
        holdsAs(16, Due.MIN, 0);
        holdsAs(16, Due.MAX, -1);
        holdsAs(32, 65535, 65535);
        holdsAs(32, 65536, 65536);
        holdsAs(32, Due.MIN, Due.MIN);
        holdsAs(32, Due.MAX, Due.MAX);
        holdsAs(32, -1, -1);
    }

    /** What can be told of a number: whether it is 0, whether 0 to 9, whether -1 or a ROCK. */
    private static void holdsAs(int bits, int v, int held) {
        String name = v + " of " + bits + " bits";
        Edge x = Edge.sea(name).light("FW", 1, 0, 1).light("FlW30s", 1, 0, 1).does("day(19)");
        x.does("sheet(0, " + bits + ", 1)").then("put(0, 0, " + v + ")", 0);
        x.tries("fits(0)", held == 0 ? 2 : 3).tries("seas(0)", held >= 0 && held <= 9 ? 1 : 0);
        x.tries("proves(0)", held == 0 || held == 1 ? -1 : held == -1 ? 1 : 0);
        Edge two = Edge.sea(name).light("FW", 0, 0, 1).does("sheet(0, " + bits + ", 2)");
        two.then("put(0, 0, " + v + ")", 0).then("put(0, 1, 1)", 0).tries("fits(0)", held == 0 ? 0 : 1);
    }

    /** A number put leaves those beside it. */
    static void promise32ThoseBesideItStay() {
        Edge x = Edge.sea("beside").light("FlW3s", 0, 0, 1).does("sheet(0, 8, 3)").then("put(0, 1, 5)", 0).tells("fits(0)", 1);
        x.then("put(0, 2, 5)", 0).tells("fits(0)", 0).then("put(0, 1, 0)", 0).tells("fits(0)", 1).then("put(0, 0, 5)", 0).tells("fits(0)", 0);
    }

    // ---- 33

    /** "BEYOND: no such sheet (either)". */
    static void promise33BeyondSheet() {
        Edge x = Edge.coast("copy").does("sheet(1, 8, 5)", "sheet(2, 8, 5)", "sheet(3, 8, 5)");
        x.bounds("copy(#, 0, 1, 0, 1)", 0, 3).bounds("copy(1, 0, #, 0, 1)", 0, 3);
        x.refused("copy(4, 0, 4, 0, 0)", Due.BEYOND).refused("copy(-1, 0, -1, 0, 0)", Due.BEYOND);
    }

    /** "MISSING: one is". */
    static void promise33MissingOneIs() {
        Edge.coast("copy").refused("copy(0, 0, 3, 0, 1)", Due.MISSING).refused("copy(3, 0, 0, 0, 1)", Due.MISSING)
            .refused("copy(3, 0, 3, 0, 0)", Due.MISSING).does("sheet(3, 8, 1)").tries("copy(0, 0, 3, 0, 1)", 1).tries("copy(3, 0, 0, 0, 1)", 1);
    }

    /** "KIND: they are not of as many bits". */
    static void promise33KindOfBits() {
        Edge x = Edge.coast("copy");
        for (int s = 0; s < 3; s++) {
            for (int t = 0; t < 3; t++) {
                if (s == t) {
                    x.tries("copy(" + s + ", 0, " + t + ", 1, 1)", 1);
                } else {
                    x.refused("copy(" + s + ", 0, " + t + ", 0, 1)", Due.KIND).refused("copy(" + s + ", 0, " + t + ", 0, 0)", Due.KIND);
                }
            }
        }
    }

    /** "BEYOND: one has not so many, or from, to or n is below 0". */
    static void promise33BeyondPlaces() {
        Edge x = Edge.coast("copy").sheet(3, 16, 7, 8, 9).bounds("copy(1, #, 3, 0, 1)", 0, 4).bounds("copy(1, 0, 3, #, 1)", 0, 2);
        x.bounds("copy(1, 0, 3, 0, #)", 0, 3).bounds("copy(3, 0, 1, 0, #)", 0, 3).bounds("copy(1, 0, 1, 0, #)", 0, 5);
        x.bounds("copy(1, #, 3, 0, 0)", 0, 5).bounds("copy(1, 0, 3, #, 0)", 0, 3).bounds("copy(1, #, 3, 0, 2)", 0, 3);
        x.bounds("copy(1, 3, 3, 0, #)", 0, 2).bounds("copy(1, 0, 3, 2, #)", 0, 1);
        x.refused("copy(1, 4, 3, 0, 2)", Due.BEYOND).refused("copy(1, 0, 3, 2, 2)", Due.BEYOND).refused("copy(1, 5, 3, 0, 1)", Due.BEYOND);
        x.refused("copy(1, MAX, 3, 0, 1)", Due.BEYOND).refused("copy(1, MAX, 3, MAX, MAX)", Due.BEYOND).refused("copy(1, 1, 3, 1, MAX)", Due.BEYOND);
        x.refused("copy(1, 1, 3, 1, -1)", Due.BEYOND).refused("copy(1, MIN, 3, MIN, MIN)", Due.BEYOND).refused("copy(1, -1, 3, 0, 2)", Due.BEYOND);
        x.refused("copy(1, 0, 3, -1, 2)", Due.BEYOND);
        Edge none = Edge.sea("no numbers").does("sheet(0, 8, 0)", "sheet(1, 8, 0)").tries("copy(0, 0, 1, 0, 0)", 0);
        none.refused("copy(0, 0, 1, 0, 1)", Due.BEYOND).refused("copy(0, 1, 1, 0, 0)", Due.BEYOND).refused("copy(0, 0, 1, 1, 0)", Due.BEYOND);
        Edge.sea("30 numbers").does("sheet(0, 8, 30)", "sheet(1, 8, 30)").tries("copy(0, 0, 1, 0, 30)", 30).tries("copy(0, 29, 1, 29, 1)", 1)
            .refused("copy(0, 0, 1, 0, 31)", Due.BEYOND).refused("copy(0, 1, 1, 0, 30)", Due.BEYOND).refused("copy(0, 0, 1, 1, 30)", Due.BEYOND);
    }

    /** No such sheet, MISSING, KIND, places: in this order. */
    static void promise33FindingsInOrder() {
        Edge.coast("copy").refused("copy(3, 0, 4, 0, 0)", Due.BEYOND).refused("copy(-1, 0, 3, 0, 0)", Due.BEYOND)
            .refused("copy(3, -1, 0, 0, 0)", Due.MISSING).refused("copy(0, 0, 3, 0, -1)", Due.MISSING)
            .refused("copy(0, -1, 1, 0, 0)", Due.KIND).refused("copy(0, 0, 1, 0, 31)", Due.KIND).refused("copy(1, 0, 2, 0, -1)", Due.KIND);
    }

    /** "n numbers of a sheet from one on come to another one from one on: n": within one sheet as they were. */
    static void promise33WithinOneSheet() {
        int[] row = {1, 2, 3, 4, 5};
        for (int from = 0; from <= 5; from++) {
            for (int to = 0; to <= 5; to++) {
                int n = 5 - Math.max(from, to);
                int[] want = row.clone();
                System.arraycopy(row, from, want, to, n);
                Edge moved = Edge.coast("within").sheet(1, 16, row).then("copy(1, " + from + ", 1, " + to + ", " + n + ")", n);
                moved.showsAs(Edge.coast("put one by one").sheet(1, 16, want), 0);
            }
        }
        Edge.coast("none come").sheet(1, 16, row).then("copy(1, 0, 1, 3, 0)", 0).showsAs(Edge.coast("none").sheet(1, 16, row), 0);
    }

    /** What is copied is all that comes: those ahead of it and behind it stay. */
    static void promise33ThoseBesideStay() {
        Edge.coast("to another").sheet(3, 16, 1, 2, 3, 4, 5).then("copy(1, 2, 3, 1, 3)", 3)
            .showsAs(Edge.coast("put one by one").sheet(3, 16, 1, 300, 0, -1, 5), 0);
    }

    // ---- 34

    /** "NONE." */
    static void promise34None() {
        Edge.sea("nothing yet").refused("undo()", Due.NONE).does("haze(3)").then("undo()", 0).refused("undo()", Due.NONE);
        Edge.sea("no act that is undone").feed("Fl").does("sheet(0, 8, 3)", "put(0, 1, 5)", "copy(0, 0, 0, 1, 2)")
            .refused("undo()", Due.NONE).then("light(0, 0, 1)", -3).refused("undo()", Due.NONE)
            .then("haze(16)", Due.BEYOND).refused("undo()", Due.NONE);
    }

    /** "The latest 16 are kept": 15, 16, 17 acts. */
    static void promise34TheLatest16AreKept() {
        for (int acts = 15; acts <= 18; acts++) {
            Edge x = Edge.sea(acts + " acts");
            for (int i = 1; i <= acts; i++) {
                x.does("fairway(" + (i % 11) + ", " + (i < 11) + ")", "haze(" + (i % 16) + ")", "undo()");
            }
            int kept = Math.min(acts, 15);
            x.does("day(7)");
            for (int left = kept; left >= 0; left--) {
                x.then("undo()", left);
            }
            x.refused("undo()", Due.NONE).tries("day(0)", 0);
        }
        for (int acts = 15; acts <= 18; acts++) {
            Edge x = Edge.sea(acts + " of haze");
            for (int i = 1; i <= acts; i++) {
                x.then("haze(" + (i % 16) + ")", (i - 1) % 16);
            }
            for (int left = Math.min(16, acts) - 1; left >= 0; left--) {
                x.then("undo()", left);
            }
            x.refused("undo()", Due.NONE).tries("haze(0)", Math.max(0, acts - 16));
        }
    }

    /** "also such as changed nothing". */
    static void promise34AlsoSuchAsChangedNothing() {
        String[] acts = {"doubt(2, 2)", "haze(1)", "day(3)", "fairway(100, true)", "fairway(101, false)", "keeper(1, 2)", "limit(1, 6)", "seas(0)"};
        for (String act : acts) {
            Edge.sea("a coast of few acts").lights(1, 0).lights(1, 1).lights(1, 2).does("sheet(0, 8, 0)")
                .does(act.replace("seas(0)", "haze(1)")).does(act).then("undo()", 4).then("undo()", 3).tells("all(0)", 3);
            Edge x = Edge.coast("a coast");
            x.does(act).then("undo()", 15).then("undo()", 14).tries("day(9)", 0).tries("haze(9)", 1);
        }
        Edge.sea("clear").then("clear()", 0).then("clear()", 0).then("undo()", 1).then("undo()", 0).refused("undo()", Due.NONE);
        Edge x = Edge.sea("a day");
        for (int i = 0; i < 17; i++) {
            x.does("day(" + Math.min(i, 1) + ")");
        }
        for (int left = 15; left >= 0; left--) {
            x.then("undo()", left);
        }
        x.refused("undo()", Due.NONE).tries("day(5)", 0);
    }

    /** "The latest act that changed the coast (..) is undone": each of them, and nothing else. */
    static void promise34EachActIsUndone() {
        Edge x = Edge.sea("few acts").light("OcW9s", 1, 9, 9).light("FlR3s", 2, 99, 9).does("sheet(0, 8, 20)", "put(0, 3, 8)", "put(0, 19, 9)")
            .does("bearing(0, 1, 9)", "bearing(1, 9, 1)", "fairway(7, true)", "word(0, 505, 5, true)");
        for (String act : new String[] {"sector(0, 1, 9, 3)", "doubt(1, 3)", "haze(7)", "day(7)", "bearing(1, 7, 8)", "clear()",
            "fairway(8, true)", "fairway(7, false)", "fairway(7, true)", "fairway(9, false)", "word(0, 99, 8, false)", "keeper(0, 7)",
            "limit(0, 0)", "seas(0)"}) {
            x.undone(act);
        }
        Edge.sea("few acts").lights(2, 1).feed("FR").then("light(3, 9, 9)", 2).then("undo()", 2)
            .showsAs(Edge.sea("not made").lights(2, 1), 0);
    }

    /** "(light without a FAULT, .., without a finding)": others are not undone, but the one ahead of them. */
    static void promise34WhatIsNoSuchAct() {
        for (String call : new String[] {"feed(1, 70)", "light(0, 0, 1)", "light(4, 0, 1)", "as(0, 0)", "lightIs(0, 0)", "at(0, 0)",
            "sector(0, 16, 0, 0)", "doubt(0, 0)", "direction(0, 1)", "colour(0, 0)", "seen(0)", "haze(16)", "day(20)", "apart(0, 1)",
            "allApart(3)", "fits(0)", "bearing(0, 16, 0)", "fix(true)", "fix(false)", "may(0)", "fairway(256, true)", "kept()",
            "word(0, 504, 0, true)", "out(0, 0, 0)", "keeper(0, 0)", "limit(0, 0)", "seas(3)", "overdue()", "landing(3)", "proves(0)",
            "sheet(0, 8, 9)", "put(0, 0, 9)", "copy(0, 0, 0, 1, 3)", "all(0)", "all(7)"}) {
            CoastLights x = new CoastLights();
            Due.light(x, "FW", 0, 0, 1);
            Due.light(x, "FlW5s", 0, 0, 1);
            Due.sheet(x, 0, 8, 1, 2, 3, 4, 5);
            x.haze(5);
            Calls.make(x, call);
            Due.due("34: behind " + call, x.undo(), 2);
            Due.due("34: haze behind " + call, x.haze(0), 0);
        }
    }

    /** clear is undone with 0, 1 and 8 BEARINGS, also where others came behind it. */
    static void promise34ClearOf8IsUndone() {
        for (int many : new int[] {0, 1, 8}) {
            Edge x = Edge.sea(many + " BEARINGS").light("FW", 0, 119, 9).light("FW", 0, 0, 9);
            for (int i = 0; i < many; i++) {
                x.does("bearing(" + i % 2 + ", " + i + ", " + (8 + i) + ")");
            }
            x.undone("clear()");
            Edge y = Edge.sea(many + " BEARINGS").light("FW", 0, 119, 9).light("FW", 0, 0, 9);
            for (int i = 0; i < many; i++) {
                y.does("bearing(" + i % 2 + ", " + i + ", " + (8 + i) + ")");
            }
            y.then("clear()", many).does("bearing(1, 3, 3)", "bearing(1, 4, 4)", "undo()", "undo()", "undo()").showsAs(x, 0);
        }
    }

    /** A LIGHT that is undone leaves nothing to the next one of its number. */
    static void promise34NothingIsLeftOfALight() {
        Edge was = Edge.sea("was").light("FW", 2, 0, 1).does("doubt(0, 3)", "sector(0, 0, 15, 3)", "bearing(0, 4, 4)", "word(0, 99, 9, true)");
        was.then("undo()", 4).then("undo()", 3).then("undo()", 2).then("undo()", 1).then("undo()", 0);
        was.light("IsoR4s", 1, 7, 2).showsAs(Edge.sea("is").light("IsoR4s", 1, 7, 2), 0);
        Edge rock = Edge.sea("rock").light("FW", 3, 0, 1).does("keeper(0, 9)", "limit(0, 9)", "undo()", "undo()", "undo()");
        rock.light("FW", 1, 0, 1).showsAs(Edge.sea("is").light("FW", 1, 0, 1), 0);
    }

    /** THE TAPE and sheets are not of the coast: undo leaves them as they are. */
    static void promise34TapeAndSheetsStay() {
        Edge.sea("TAPE").lights(1, 0).feed("FR").then("undo()", 0).tells("all(5)", 2).then("light(0, 0, 1)", 0).tells("lightIs(0, 3)", 1);
        Edge.sea("sheet").lights(1, 0).sheet(0, 8, 1, 2).then("undo()", 0).tells("fits(0)", 0).tries("seas(0)", 2);
    }

    // ---- 35

    /** "BEYOND: another what". */
    static void promise35Beyond() {
        Edge.coast("all").bounds("all(#)", 0, 6);
        Edge.sea("all").bounds("all(#)", 0, 6);
    }

    /** "0 LIGHTS, 1 ROCKS (TOWERS, too), 2 BEARINGS, 3 CELLS of THE FAIRWAY, 4 words, 5 bytes of THE TAPE": none, one more. */
    static void promise35Counts() {
        Edge x = Edge.coast("counts");
        int[] want = {5, 3, 2, 2, 3, 2, 0};
        for (int what = 0; what <= 6; what++) {
            x.tells("all(" + what + ")", want[what]);
        }
        x.does("bearing(0, 0, 0)", "fairway(0, true)", "word(0, 0, 7, true)", "feed(1, 87)");
        x.tells("all(2)", 3).tells("all(3)", 3).tells("all(4)", 4).tells("all(5)", 3);
        x.feed("5s").then("light(3, 0, 1)", 5).tells("all(0)", 6).tells("all(1)", 4).tells("all(5)", 0);
        x.light("FW", 2, 0, 1).light("FW", 0, 0, 1).tells("all(0)", 8).tells("all(1)", 4);
        x.then("undo()", 15).tells("all(0)", 7);
        Edge most = Edge.sea("the most").lights(10, 3).feed("F".repeat(40)).tells("all(0)", 10).tells("all(1)", 10).tells("all(5)", 40);
        for (int i = 0; i < 12; i++) {
            most.does("fairway(" + i + ", true)");
        }
        for (int i = 0; i < 20; i++) {
            most.does("word(9, 0, 999, false)");
        }
        for (int i = 0; i < 8; i++) {
            most.does("bearing(9, 0, 0)");
        }
        most.tells("all(2)", 8).tells("all(3)", 12).tells("all(4)", 20);
    }

    /** "6 how many acts answered a finding ever (this one, too, if it does)". */
    static void promise35FindingsEver() {
        Edge x = Edge.sea("findings").then("all(6)", 0).then("all(7)", Due.BEYOND).then("all(6)", 1).then("all(6)", 1);
        x.then("undo()", Due.NONE).then("all(6)", 2).then("fits(0)", Due.MISSING).then("all(6)", 3);
        x.then("direction(0, 0)", Due.SIZE).then("all(6)", 4).lights(1, 0).then("doubt(0, 0)", Due.KIND).then("all(6)", 5);
        x.feed("F".repeat(40)).then("feed(1, 70)", Due.FULL).then("all(6)", 6).then("light(0, 0, 1)", -2).then("all(6)", 6);
        x.then("undo()", 0).then("all(6)", 6).then("landing(0)", Due.NONE).then("all(6)", 7);
        x.sheet(0, 8, -1).does("day(19)").then("proves(0)", -1).then("all(6)", 7);
    }
}
