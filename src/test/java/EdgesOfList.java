/** Boundaries that promises 1 to 8 name: a new object, feed, light, as, lightIs, at, sector, doubt. */
final class EdgesOfList {
    private EdgesOfList() {
    }

    // ---- 1

    /** "No LIGHTS, words, BEARINGS". */
    static void promise01NoLightsWordsBearings() {
        Edge x = Edge.sea("a new object");
        for (int what = 0; what <= 6; what++) {
            x.tells("all(" + what + ")", 0);
        }
        x.refused("lightIs(0, 0)", Due.BEYOND).refused("undo()", Due.NONE);
        x.tells("seen(0)", 0).tells("seen(255)", 0).tells("fix(false)", 256).tells("fix(true)", 0).tells("kept()", 0);
        x.tries("clear()", 0).tells("overdue()", 0).refused("landing(0)", Due.NONE).refused("landing(19)", Due.NONE);
    }

    /** "HAZE, DAY 0". */
    static void promise01HazeDay0() {
        Edge.sea("a new object").tries("haze(15)", 0).tries("day(19)", 0).tries("haze(0)", 0).tries("day(0)", 0);
    }

    /** "sheets MISSING". */
    static void promise01SheetsMissing() {
        for (int s = 0; s < 4; s++) {
            Edge.sea("a new object").refused("fits(" + s + ")", Due.MISSING).refused("seas(" + s + ")", Due.MISSING)
                .refused("proves(" + s + ")", Due.MISSING).refused("put(" + s + ", 0, 1)", Due.MISSING);
        }
    }

    /** A new object is new, whatever stands on another one. */
    static void promise01ANewObjectBesideAnother() {
        Edge used = Edge.coast("another one");
        Edge fresh = Edge.sea("a new object");
        used.tells("all(0)", 5);
        fresh.tells("all(0)", 0).tells("all(5)", 0).tries("haze(0)", 0).refused("fits(0)", Due.MISSING);
    }

    // ---- 2

    /** "BEYOND: n is not 1 to 8". */
    static void promise02BeyondNIsNot1To8() {
        Edge.coast("n").bounds("feed(#, 70)", 1, 8);
        for (int n = 1; n <= 8; n++) {
            Edge.coast("n").then("feed(" + n + ", -1)", 2 + n).tells("all(5)", 2 + n);
        }
    }

    /** "The n lowest bytes of a number, the lowest first": one byte fewer, one more. */
    static void promise02TheNLowestBytes() {
        String text = "Q(10)W23";
        long bytes = Long.parseLong(Calls.feed(text).replaceAll(".*, |\\)", ""));
        for (int n = 1; n <= 8; n++) {
            Edge.sea(n + " bytes").then("feed(" + n + ", " + bytes + ")", n).then("light(0, 0, 1)", -1 - n);
        }
        Edge.sea("8 bytes and 1").does("feed(8, " + bytes + ")").then("feed(1, 115)", 9).then("light(0, 0, 1)", 0)
            .tells("lightIs(0, 4)", 23).tells("lightIs(0, 5)", 10);
        Edge.sea("of a number below 0").then("feed(1, " + ('F' - 256) + ")", 1).then("feed(1, " + ('W' - 512) + ")", 2)
            .then("light(0, 0, 1)", 0);
        Edge.sea("the highest byte").then("feed(8, " + (bytes | 0x80L << 56) + ")", 8).then("light(0, 0, 1)", -8);
        Edge.sea("two bytes of many").then("feed(2, " + (0x7373737373730000L | 'F' | 'W' << 8) + ")", 2).then("light(0, 0, 1)", 0);
    }

    /** "FULL." */
    static void promise02Full() {
        Edge x = Edge.coastWithoutTape("near FULL").feed("Fl(2)W6s".repeat(4)).feed("1234567").tells("all(5)", 39);
        x.refused("feed(2, 70)", Due.FULL).refused("feed(8, 70)", Due.FULL).tries("feed(1, 70)", 40);
        x.then("feed(1, 70)", 40).refused("feed(1, 70)", Due.FULL).refused("feed(8, 70)", Due.FULL);
        x.then("light(0, 0, 1)", -9).then("feed(8, 70)", 8);
        Edge.sea("33 bytes").feed("F".repeat(32)).then("feed(1, 70)", 33).refused("feed(8, 70)", Due.FULL).then("feed(7, 70)", 40);
    }

    /** BEYOND is asked ahead of FULL. */
    static void promise02FindingsInOrder() {
        Edge.sea("a FULL TAPE").feed("F".repeat(40)).refused("feed(0, 70)", Due.BEYOND).refused("feed(9, 70)", Due.BEYOND)
            .refused("feed(1, 70)", Due.FULL);
    }

    // ---- 3

    /** "BEYOND: kind, CELL, RANGE (THE TAPE stays)". */
    static void promise03BeyondKind() {
        Edge x = Edge.coast("kind").feed("W5s").bounds("light(#, 0, 1)", 0, 3);
        x.refused("light(4, 0, 1)", Due.BEYOND).tells("all(5)", 5).then("light(3, 0, 1)", 5).tells("lightIs(5, 0)", 3);
    }

    static void promise03BeyondCell() {
        Edge x = Edge.coast("CELL").feed("W5s").bounds("light(0, #, 1)", 0, 255);
        x.refused("light(0, 256, 1)", Due.BEYOND).tells("all(5)", 5).then("light(0, 255, 1)", 5).tells("lightIs(5, 1)", 255);
    }

    static void promise03BeyondRange() {
        Edge x = Edge.coast("RANGE").feed("W5s").bounds("light(0, 0, #)", 1, 15);
        x.refused("light(0, 0, 16)", Due.BEYOND).tells("all(5)", 5).then("light(0, 0, 15)", 5).tells("lightIs(5, 2)", 15);
        for (int range : new int[] {1, 2, 14, 15}) {
            Edge.sea("RANGE " + range).light("FW", 0, 0, range).tells("lightIs(0, 2)", range)
                .tells("seen(" + range + ")", 1).tells("seen(" + Due.cell(range, 1) + ")", 0);
        }
    }

    /** "FULL: there are 10 (likewise)". */
    static void promise03FullThereAre10() {
        Edge x = Edge.sea("LIGHTS").lights(8, 0).feed("FW").then("light(0, 0, 1)", 8).feed("FW").tries("light(0, 0, 1)", 9);
        x.then("light(0, 0, 1)", 9).refused("light(0, 0, 1)", Due.FULL).feed("FG").refused("light(0, 0, 1)", Due.FULL);
        x.tells("all(5)", 2).tells("all(0)", 10);
        x.then("undo()", 9).then("light(0, 0, 1)", 9).tells("lightIs(9, 3)", 2).refused("light(0, 0, 1)", Due.FULL);
    }

    /** BEYOND is asked ahead of FULL, and both ahead of a FAULT. */
    static void promise03FindingsInOrder() {
        Edge ten = Edge.sea("10 and a FAULT").lights(10, 0).feed("Fx");
        ten.refused("light(4, 0, 1)", Due.BEYOND).refused("light(0, 256, 1)", Due.BEYOND).refused("light(0, 0, 16)", Due.BEYOND);
        ten.refused("light(0, 0, 1)", Due.FULL).tells("all(5)", 2);
        Edge.sea("a FAULT").feed("Fx").refused("light(-1, 0, 1)", Due.BEYOND).refused("light(0, -1, 1)", Due.BEYOND)
            .refused("light(0, 0, 0)", Due.BEYOND).then("light(0, 0, 1)", -2).tells("all(6)", 0);
    }

    /** "with a FAULT -1 less its place (no finding)": THE TAPE is empty, and nothing else has changed. */
    static void promise03AFaultEmptiesTheTapeAlone() {
        Edge empty = Edge.coastWithoutTape("an empty TAPE");
        Edge.coastWithoutTape("an empty TAPE is a FAULT").then("light(0, 0, 1)", -1).showsAs(empty, 0);
        Edge.coast("too early").then("light(0, 0, 1)", -3).showsAs(empty, 0);
        Edge.coast("a byte that can't stand").feed("x").then("light(3, 255, 15)", -3).showsAs(empty, 0);
        Edge.coast("a PERIOD").feed("W31s").then("light(1, 7, 2)", -4).showsAs(empty, 0);
        Edge.coast("a byte too many").feed("W30ss").then("light(1, 7, 2)", -7).showsAs(empty, 0);
        Edge.sea("the farthest place").feed("Fl(15)W30s" + "s".repeat(30)).then("light(0, 0, 1)", -11);
    }

    /** "A new LIGHT by THE TAPE, which is empty then: its number". */
    static void promise03TheTapeIsEmptyThen() {
        Edge.coast("a TEXT").feed("W5s").then("light(0, 0, 1)", 5).tells("all(5)", 0).then("light(0, 0, 1)", -1)
            .feed("FR").then("light(2, 9, 3)", 6).tells("lightIs(6, 3)", 1).tells("lightIs(6, 4)", 1);
    }

    // ---- 4

    /** "BEYOND: no such LIGHT, or kind". */
    static void promise04Beyond() {
        Edge x = Edge.coast("as").bounds("as(#, 0)", 0, 4);
        x.refused("as(3, -1)", Due.BEYOND).tells("as(3, 0)", 3).tells("as(3, 1)", 3).tells("as(2, 2)", 2).tells("as(3, 3)", 3);
        x.refused("as(3, 4)", Due.BEYOND).refused("as(3, MIN)", Due.BEYOND).refused("as(3, MAX)", Due.BEYOND);
        Edge.sea("no LIGHT").refused("as(0, 0)", Due.BEYOND).lights(1, 0).tells("as(0, 0)", 0).refused("as(1, 0)", Due.BEYOND);
    }

    /** "KIND: it is not of that kind, nor of one under it". */
    static void promise04Kind() {
        Edge x = Edge.coast("kinds");
        x.tells("as(0, 0)", 0).refused("as(0, 1)", Due.KIND).refused("as(0, 2)", Due.KIND).refused("as(0, 3)", Due.KIND);
        x.tells("as(1, 0)", 1).tells("as(1, 1)", 1).refused("as(1, 2)", Due.KIND).refused("as(1, 3)", Due.KIND);
        x.tells("as(2, 0)", 2).refused("as(2, 1)", Due.KIND).tells("as(2, 2)", 2).refused("as(2, 3)", Due.KIND);
        x.tells("as(3, 0)", 3).tells("as(3, 1)", 3).refused("as(3, 2)", Due.KIND).tells("as(3, 3)", 3);
    }

    /** BEYOND is asked ahead of KIND. */
    static void promise04FindingsInOrder() {
        Edge.coast("as").refused("as(0, 4)", Due.BEYOND).refused("as(5, 3)", Due.BEYOND).refused("as(-1, 3)", Due.BEYOND);
    }

    // ---- 5

    /** "BEYOND: no such LIGHT, or another what". */
    static void promise05Beyond() {
        Edge x = Edge.coast("lightIs").bounds("lightIs(#, 0)", 0, 4).bounds("lightIs(0, #)", 0, 7);
        int[] want = {2, 136, 8, 2, 6, 3, 0, 2};
        for (int what = 0; what < 8; what++) {
            x.tells("lightIs(2, " + what + ")", want[what]);
        }
        Edge.sea("no LIGHT").refused("lightIs(0, 0)", Due.BEYOND).refused("lightIs(0, 7)", Due.BEYOND);
    }

    /** "4 seconds of its RHYTHM, 5 how many of these have light, 6 SECTORS, 7 DOUBT": the least and the most. */
    static void promise05LeastAndMost() {
        Edge.sea("the least").light("FW", 0, 0, 1).tells("lightIs(0, 0)", 0).tells("lightIs(0, 1)", 0).tells("lightIs(0, 2)", 1)
            .tells("lightIs(0, 3)", 0).tells("lightIs(0, 4)", 1).tells("lightIs(0, 5)", 1).tells("lightIs(0, 6)", 0)
            .tells("lightIs(0, 7)", 0);
        Edge.sea("the most").light("OcG30s", 2, 255, 15)
            .does("sector(0, 0, 0, 0)", "sector(0, 0, 0, 0)", "sector(0, 0, 0, 0)", "sector(0, 0, 0, 0)", "doubt(0, 3)")
            .tells("lightIs(0, 0)", 2).tells("lightIs(0, 1)", 255).tells("lightIs(0, 2)", 15).tells("lightIs(0, 3)", 2)
            .tells("lightIs(0, 4)", 30).tells("lightIs(0, 5)", 29).tells("lightIs(0, 6)", 4).tells("lightIs(0, 7)", 3);
    }

    // ---- 6

    /** "in a second (0 or more, ..)", "BEYOND." */
    static void promise06Beyond() {
        Edge x = Edge.coast("at").bounds("at(#, 0)", 0, 4);
        x.refused("at(0, -1)", Due.BEYOND).refused("at(0, MIN)", Due.BEYOND).refused("at(5, -1)", Due.BEYOND);
        x.tells("at(0, 0)", 1).tells("at(0, 1)", 0).tells("at(0, MAX)", 0);
        Edge.sea("no LIGHT").refused("at(0, 0)", Due.BEYOND);
    }

    /** "again and again": a second to each side of where the RHYTHM begins anew. */
    static void promise06AgainAndAgain() {
        Edge x = Edge.sea("again").light("OcW5s", 0, 0, 1).light("FlW30s", 0, 0, 1).light("FW", 0, 0, 1);
        int[] second = {0, 1, 4, 5, 6, 9, 10, 2147483639, 2147483640, 2147483641};
        for (int i = 0; i < second.length; i++) {
            x.tries("at(0, " + second[i] + ")", second[i] % 5 == 0 ? 0 : 1);
        }
        x.tells("at(1, 0)", 1).tells("at(1, 29)", 0).tells("at(1, 30)", 1).tells("at(1, 31)", 0);
        x.tells("at(1, 2147483639)", 0).tells("at(1, 2147483640)", 1).tells("at(1, 2147483641)", 0).tells("at(1, MAX)", 0);
        x.tells("at(2, 0)", 1).tells("at(2, MAX)", 1);
    }

    // ---- 7

    /** "BEYOND: no such LIGHT, DIRECTION (either), COLOUR (0 to 3)". */
    static void promise07Beyond() {
        Edge x = Edge.coast("sector").bounds("sector(#, 0, 0, 0)", 0, 4);
        x.bounds("sector(1, #, 0, 0)", 0, 15).bounds("sector(1, 0, #, 0)", 0, 15).bounds("sector(1, 0, 0, #)", 0, 3);
        Edge.sea("no LIGHT").refused("sector(0, 0, 0, 0)", Due.BEYOND);
    }

    /** "FULL: it has 4". */
    static void promise07FullItHas4() {
        Edge x = Edge.coast("SECTORS").then("sector(3, 1, 1, 0)", 3).tries("sector(3, 2, 2, 1)", 4).then("sector(3, 2, 2, 1)", 4);
        x.refused("sector(3, 3, 3, 2)", Due.FULL).refused("sector(3, 0, 15, 3)", Due.FULL).tells("lightIs(3, 6)", 4);
        x.then("sector(0, 3, 3, 2)", 2).then("undo()", 15).then("undo()", 14).then("sector(3, 5, 5, 2)", 4);
        x.refused("sector(3, 3, 3, 2)", Due.FULL);
    }

    /** BEYOND is asked ahead of FULL. */
    static void promise07FindingsInOrder() {
        Edge x = Edge.coast("SECTORS").does("sector(3, 1, 1, 0)", "sector(3, 2, 2, 1)");
        x.refused("sector(3, 16, 0, 0)", Due.BEYOND).refused("sector(3, 0, 16, 0)", Due.BEYOND).refused("sector(3, 0, 0, 4)", Due.BEYOND);
    }

    // ---- 8

    /** "DOUBT of a BUOY becomes v: what it was. BEYOND." */
    static void promise08Beyond() {
        Edge x = Edge.coast("doubt").bounds("doubt(2, #)", 0, 3);
        x.refused("doubt(5, 0)", Due.BEYOND).refused("doubt(-1, 0)", Due.BEYOND).refused("doubt(MAX, 0)", Due.BEYOND);
        x.then("doubt(2, 3)", 2).then("doubt(2, 0)", 3).then("doubt(2, 1)", 0).then("doubt(2, 1)", 1).tells("lightIs(2, 7)", 1);
        Edge.sea("no LIGHT").refused("doubt(0, 0)", Due.BEYOND);
    }

    /** "KIND: it is no BUOY". */
    static void promise08Kind() {
        Edge x = Edge.coast("doubt");
        for (int light : new int[] {0, 1, 3, 4}) {
            x.refused("doubt(" + light + ", 0)", Due.KIND).refused("doubt(" + light + ", 3)", Due.KIND);
            x.tells("lightIs(" + light + ", 7)", 0);
        }
        x.tries("doubt(2, 3)", 2);
    }

    /** BEYOND is asked ahead of KIND. */
    static void promise08FindingsInOrder() {
        Edge.coast("doubt").refused("doubt(0, 4)", Due.BEYOND).refused("doubt(0, -1)", Due.BEYOND).refused("doubt(3, 4)", Due.BEYOND);
    }
}
