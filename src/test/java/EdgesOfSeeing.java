/** Boundaries that promises 9 to 16 name: direction, colour, seen, haze, day, apart, allApart, fits. */
final class EdgesOfSeeing {
    private EdgesOfSeeing() {
    }

    // ---- 9

    /** "BEYOND." */
    static void promise09Beyond() {
        Edge.coast("direction").bounds("direction(#, 100)", 0, 255).bounds("direction(100, #)", 0, 255);
    }

    /** "SIZE: they are one": each CELL with itself, and with those beside it. */
    static void promise09SizeTheyAreOne() {
        Edge x = Edge.coast("one CELL");
        for (int cell : new int[] {0, 1, 254, 255}) {
            x.refused("direction(" + cell + ", " + cell + ")", Due.SIZE);
        }
        x.tells("direction(0, 1)", 4).tells("direction(1, 0)", 12).tells("direction(254, 255)", 4).tells("direction(0, 16)", 0);
        CoastLights sea = new CoastLights();
        for (int cell = 0; cell < 256; cell++) {
            Due.due("direction(" + cell + ", " + cell + ")", sea.direction(cell, cell), Due.SIZE);
        }
    }

    /** BEYOND is asked ahead of SIZE. */
    static void promise09FindingsInOrder() {
        Edge.coast("no CELL").refused("direction(-1, -1)", Due.BEYOND).refused("direction(256, 256)", Due.BEYOND);
    }

    /** On each DIRECTION, just ahead of it and just behind it; past the last one the first begins. */
    static void promise09OneStepToEachSide() {
        Edge x = Edge.sea("steps from (7, 7)");
        int[][] want = {{0, 8, 0}, {1, 8, 0}, {-1, 8, 15}, {4, 8, 1}, {3, 7, 0}, {4, 7, 1}, {8, 8, 2}, {7, 8, 1}, {8, 7, 2},
            {8, 4, 3}, {7, 4, 2}, {8, 3, 3}, {8, 0, 4}, {8, 1, 3}, {8, -1, 4}, {8, -4, 5}, {8, -3, 4}, {7, -4, 5}, {7, -7, 6},
            {7, -6, 5}, {6, -7, 6}, {3, -6, 7}, {4, -7, 6}, {3, -7, 7}, {0, -7, 8}, {1, -7, 7}, {-1, -7, 8}, {-3, -6, 9},
            {-3, -7, 8}, {-4, -7, 9}, {-7, -7, 10}, {-6, -7, 9}, {-7, -6, 10}, {-6, -3, 11}, {-7, -4, 10}, {-7, -3, 11},
            {-7, 0, 12}, {-7, -1, 11}, {-7, 1, 12}, {-6, 3, 13}, {-7, 3, 12}, {-7, 4, 13}, {-7, 7, 14}, {-7, 6, 13}, {-6, 7, 14},
            {-4, 8, 15}, {-4, 7, 14}, {-3, 7, 15}};
        for (int[] row : want) {
            x.tries("direction(119, " + (119 + row[0] + 16 * row[1]) + ")", row[2]);
        }
    }

    // ---- 10

    /** "BEYOND." */
    static void promise10Beyond() {
        Edge.coast("colour").bounds("colour(#, 0)", 0, 4).bounds("colour(0, #)", 0, 255).refused("colour(5, 256)", Due.BEYOND);
        Edge.sea("no LIGHT").refused("colour(0, 0)", Due.BEYOND);
    }

    /** "COLOUR of a LIGHT in a CELL (3: dark), whether it is SEEN or not". */
    static void promise10SeenOrNot() {
        Edge.sea("colour").light("FG", 0, 0, 1).tells("colour(0, 1)", 2).tells("colour(0, 2)", 2).tells("colour(0, 255)", 2)
            .does("haze(15)").tells("colour(0, 1)", 2).does("word(0, 99, 0, true)").tells("colour(0, 0)", 2).tells("seen(0)", 0)
            .does("sector(0, 4, 4, 3)").tells("colour(0, 1)", 3).tells("colour(0, 15)", 3).tells("colour(0, 16)", 2);
    }

    // ---- 11

    /** "BEYOND." */
    static void promise11Beyond() {
        Edge.coast("seen").bounds("seen(#)", 0, 255);
        Edge.sea("no LIGHT").tells("seen(0)", 0).tells("seen(255)", 0).refused("seen(256)", Due.BEYOND);
    }

    /** "LIGHTS that are SEEN from a CELL, as bits": none, each alone, all. */
    static void promise11AsBits() {
        Edge x = Edge.sea("as bits");
        for (int i = 0; i < 10; i++) {
            x.light("FW", 0, 20 * i, 1);
        }
        for (int i = 0; i < 10; i++) {
            x.tries("seen(" + 20 * i + ")", 1 << i);
        }
        x.tries("seen(10)", 0);
        Edge.sea("all").lights(10, 0).tells("seen(0)", 1023).tells("seen(1)", 1023).tells("seen(2)", 0);
    }

    // ---- 12

    /** "HAZE becomes v: what it was. BEYOND." */
    static void promise12Beyond() {
        Edge x = Edge.coast("haze").bounds("haze(#)", 0, 15);
        x.then("haze(15)", 1).then("haze(0)", 15).then("haze(14)", 0).then("haze(14)", 14).refused("haze(16)", Due.BEYOND);
        x.tries("haze(0)", 14);
    }

    // ---- 13

    /** "THE DAY becomes v (0 to 19): what it was. BEYOND." */
    static void promise13Beyond() {
        Edge x = Edge.coast("day").bounds("day(#)", 0, 19);
        x.then("day(19)", 3).then("day(0)", 19).then("day(18)", 0).then("day(18)", 18).refused("day(20)", Due.BEYOND);
        x.tries("day(0)", 18);
    }

    // ---- 14

    /** "BEYOND." */
    static void promise14Beyond() {
        Edge x = Edge.coast("apart").bounds("apart(#, 2)", 0, 4).bounds("apart(2, #)", 0, 4);
        // F has light in any second, Q(3) in no two one behind the other.
        x.tells("apart(4, 3)", 2).tells("apart(3, 4)", 2);
        Edge.sea("no LIGHT").refused("apart(0, 1)", Due.BEYOND).lights(1, 0).refused("apart(0, 1)", Due.BEYOND);
    }

    /** "SIZE: they are one". */
    static void promise14SizeTheyAreOne() {
        Edge x = Edge.coast("one LIGHT");
        x.refused("apart(0, 0)", Due.SIZE).refused("apart(4, 4)", Due.SIZE).refused("apart(3, 3)", Due.SIZE);
        Edge.sea("as one").lights(2, 0).refused("apart(0, 0)", Due.SIZE).refused("apart(0, 1)", Due.NONE).refused("apart(1, 1)", Due.SIZE);
    }

    /** BEYOND is asked ahead of SIZE. */
    static void promise14FindingsInOrder() {
        Edge.coast("no LIGHT").refused("apart(5, 5)", Due.BEYOND).refused("apart(-1, -1)", Due.BEYOND);
        Edge.sea("no LIGHTS").refused("apart(0, 0)", Due.BEYOND);
    }

    /** "NONE: never": as one, from another second on, over several PERIODS; and one second off. */
    static void promise14NoneNever() {
        Edge.sea("never").light("Fl(2)W4s", 0, 0, 1).light("OcR2s", 2, 9, 3).light("Fl(15)G30s", 1, 5, 2).light("Fl(14)W29s", 0, 0, 1)
            .refused("apart(0, 1)", Due.NONE).refused("apart(1, 2)", Due.NONE).refused("apart(2, 0)", Due.NONE)
            .tells("apart(2, 3)", 30).tells("apart(3, 2)", 30);
        Edge.sea("the latest").light("FlW29s", 0, 0, 1).light("FlW30s", 0, 0, 1).light("QW30s", 0, 0, 1)
            .tells("apart(0, 1)", 58).refused("apart(1, 2)", Due.NONE).tells("apart(0, 2)", 58);
    }

    // ---- 15

    /** "BEYOND: the set has others": the bit of the last LIGHT, and the next one. */
    static void promise15BeyondTheSetHasOthers() {
        for (int many : new int[] {0, 1, 9, 10}) {
            Edge x = Edge.sea(many + " LIGHTS");
            for (int i = 0; i < many; i++) {
                x.light("FlW" + (2 + i) + "s", 0, 0, 1);
            }
            x.refused("allApart(" + (1 << many) + ")", Due.BEYOND).refused("allApart(" + ((2 << many) - 1) + ")", Due.BEYOND);
            x.refused("allApart(-1)", Due.BEYOND).refused("allApart(MIN)", Due.BEYOND).refused("allApart(MAX)", Due.BEYOND);
            x.refused("allApart(65536)", Due.BEYOND).tells("allApart(0)", 1);
            if (many > 0) {
                x.tells("allApart(" + (1 << many - 1) + ")", 1);
            }
        }
    }

    /** "(1 for fewer than two)": none, one, two, three. */
    static void promise15FewerThanTwo() {
        Edge.sea("few").light("FW", 0, 0, 1).light("FlW5s", 0, 0, 1).light("FlW6s", 0, 0, 1)
            .tells("allApart(0)", 1).tells("allApart(1)", 1).tells("allApart(2)", 1).tells("allApart(4)", 1)
            .tells("allApart(3)", 2).tells("allApart(5)", 2).tells("allApart(6)", 10).tells("allApart(7)", 10);
    }

    /** "NONE: some never are"; BEYOND is asked ahead of it. */
    static void promise15NoneSomeNeverAre() {
        Edge.sea("never").light("FW", 0, 0, 1).light("FlW5s", 0, 0, 1).light("QR5s", 0, 0, 1)
            .refused("allApart(6)", Due.NONE).refused("allApart(7)", Due.NONE).tells("allApart(3)", 2).tells("allApart(5)", 2)
            .refused("allApart(14)", Due.BEYOND).refused("allApart(15)", Due.BEYOND);
    }

    // ---- 16

    /** "BEYOND: no such sheet. MISSING." */
    static void promise16BeyondAndMissing() {
        Edge x = Edge.coast("fits").refused("fits(-1)", Due.BEYOND).tells("fits(0)", 0).tells("fits(1)", 10);
        // Four seconds of light: F has them, and Oc(2) of 7 seconds.
        x.tells("fits(2)", 18).refused("fits(3)", Due.MISSING).refused("fits(4)", Due.BEYOND);
        x.refused("fits(MIN)", Due.BEYOND).refused("fits(MAX)", Due.BEYOND);
        x.does("sheet(3, 8, 0)").tells("fits(3)", 31).does("sheet(3, 0, 0)").refused("fits(3)", Due.MISSING);
        Edge.sea("all MISSING").refused("fits(0)", Due.MISSING).refused("fits(3)", Due.MISSING).refused("fits(4)", Due.BEYOND);
    }

    /** "seconds one behind the other (0: dark, else light)": 0, a step to each side, and what bits leave of 256. */
    static void promise16ZeroIsDark() {
        Edge x = Edge.sea("0 is dark").light("FW", 0, 0, 1).light("FlW30s", 0, 0, 1);
        x.sheet(0, 8, 0, 0).tells("fits(0)", 2);
        for (int v : new int[] {1, -1, 127, 128, 255, 257}) {
            x.sheet(0, 8, v, v).tries("fits(0)", 1);
        }
        x.sheet(0, 8, 256, 512).tries("fits(0)", 2).sheet(0, 16, 256, 512).tries("fits(0)", 1);
        x.sheet(0, 16, 65536, 131072).tries("fits(0)", 2).sheet(0, 32, 65536, 131072).tries("fits(0)", 1);
        x.sheet(0, 32, Due.MIN, Due.MAX).tries("fits(0)", 1).sheet(0, 16, 32768, 32767).tries("fits(0)", 1);
    }

    /** "begun at any time": no second, one, as many as a PERIOD has, one more, 30. */
    static void promise16BegunAtAnyTime() {
        Edge x = Edge.sea("any time").light("Fl(2)W5s", 0, 0, 1).does("sheet(0, 8, 0)").tells("fits(0)", 1);
        x.sheet(0, 8, 0).tells("fits(0)", 1).sheet(0, 8, 1).tells("fits(0)", 1);
        x.sheet(0, 8, 0, 0, 1, 0, 1).tells("fits(0)", 1).sheet(0, 8, 0, 1, 0, 1, 0).tells("fits(0)", 1);
        x.sheet(0, 8, 0, 0, 1, 0, 0).tells("fits(0)", 0).sheet(0, 8, 0, 0, 1, 0, 1, 0).tells("fits(0)", 1);
        x.sheet(0, 8, 0, 0, 1, 0, 1, 1).tells("fits(0)", 0);
        for (int begun = 0; begun < 30; begun++) {
            CoastLights y = new CoastLights();
            Due.light(y, "Oc(3)W30s", 0, 0, 1);
            y.sheet(0, 8, 30);
            for (int i = 0; i < 30; i++) {
                y.put(0, i, y.at(0, begun + i));
            }
            Due.due("30 seconds begun at " + begun, y.fits(0), 1);
            y.put(0, 29, 1 - y.at(0, begun + 29));
            Due.due("but the last, begun at " + begun, y.fits(0), 0);
        }
    }
}
