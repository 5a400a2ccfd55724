/** Boundaries that promises 23 and 24 name: word, out. */
final class EdgesOfOutages {
    private EdgesOfOutages() {
    }

    // ---- 23

    /** "BEYOND: no such LIGHT, days (100 times from, and to), HOUR". */
    static void promise23BeyondLight() {
        Edge.coast("word").bounds("word(#, 0, 7, true)", 0, 4);
        Edge.sea("no LIGHT").refused("word(0, 0, 0, true)", Due.BEYOND);
    }

    static void promise23BeyondDays() {
        Edge x = Edge.coast("days");
        x.refused("word(0, -1, 7, true)", Due.BEYOND).tries("word(0, 0, 7, true)", 4).tries("word(0, 1, 7, true)", 4);
        x.tries("word(0, 99, 7, true)", 4).tries("word(0, 9899, 7, true)", 4).tries("word(0, 9999, 7, true)", 4);
        x.refused("word(0, 10000, 7, true)", Due.BEYOND).refused("word(0, MIN, 7, true)", Due.BEYOND);
        x.refused("word(0, MAX, 7, true)", Due.BEYOND).refused("word(0, -100, 7, true)", Due.BEYOND);
        x.refused("word(0, 10099, 7, true)", Due.BEYOND);
        x.does("word(0, 9999, 7, true)").tells("out(0, 98, 999)", 0).tells("out(0, 99, 999)", 1);
        x.does("word(0, 0, 7, true)").tells("out(0, 0, 999)", 1).tells("out(0, 1, 999)", 0);
    }

    static void promise23BeyondHour() {
        Edge.sea("HOUR").lights(1, 0).bounds("word(0, 0, #, true)", 0, 999);
        Edge x = Edge.coast("HOUR");
        x.refused("word(0, 0, -1, true)", Due.BEYOND).refused("word(0, 0, 1000, true)", Due.BEYOND);
        x.tries("word(0, 0, 998, true)", 4).tries("word(0, 0, 999, true)", 4);
    }

    /** "SIZE: from is above to". */
    static void promise23SizeFromIsAboveTo() {
        Edge x = Edge.coast("days");
        x.refused("word(0, 504, 7, true)", Due.SIZE).tries("word(0, 505, 7, true)", 4).tries("word(0, 506, 7, true)", 4);
        x.refused("word(0, 100, 7, true)", Due.SIZE).tries("word(0, 101, 7, true)", 4).tries("word(0, 102, 7, true)", 4);
        x.refused("word(0, 9998, 7, true)", Due.SIZE).refused("word(0, 9900, 7, true)", Due.SIZE).tries("word(0, 9899, 7, true)", 4);
    }

    /** "or HOUR is below that of the word ahead". */
    static void promise23SizeHourIsBelow() {
        Edge x = Edge.coast("HOUR 7");
        x.refused("word(0, 0, 6, true)", Due.SIZE).refused("word(0, 0, 0, true)", Due.SIZE);
        x.tries("word(0, 0, 7, true)", 4).tries("word(0, 0, 8, true)", 4).then("word(0, 0, 999, true)", 4);
        x.refused("word(0, 0, 998, true)", Due.SIZE).then("word(0, 0, 999, false)", 5);
        x.then("undo()", 15).then("undo()", 14).then("word(0, 0, 7, true)", 4).refused("word(4, 0, 6, true)", Due.SIZE);
        Edge.sea("no word ahead").lights(1, 0).tries("word(0, 0, 0, true)", 1).then("word(0, 0, 5, true)", 1).then("undo()", 1)
            .then("word(0, 0, 0, true)", 1);
    }

    private static Edge words(String name, int many) {
        Edge x = Edge.coast(name);
        for (int i = 4; i <= many; i++) {
            x.then("word(" + i % 5 + ", 1019, " + (5 + i) + ", " + (i % 2 == 0) + ")", i);
        }
        return x;
    }

    /** "FULL: there are 20". */
    static void promise23FullThereAre20() {
        words("19 words", 19).tries("word(0, 0, 25, true)", 20).then("word(0, 0, 25, true)", 20).tells("all(4)", 20)
            .refused("word(0, 0, 25, true)", Due.FULL).refused("word(4, 9999, 999, false)", Due.FULL)
            .then("undo()", 15).then("word(4, 99, 999, false)", 20).refused("word(4, 99, 999, false)", Due.FULL);
    }

    /** BEYOND is asked ahead of SIZE, and SIZE ahead of FULL. */
    static void promise23FindingsInOrder() {
        Edge x = words("20 words", 20);
        x.refused("word(5, 504, 7, true)", Due.BEYOND).refused("word(0, 10000, 7, true)", Due.BEYOND);
        x.refused("word(0, 504, 1000, true)", Due.BEYOND).refused("word(0, -1, 7, true)", Due.BEYOND);
        x.refused("word(0, 504, 25, true)", Due.SIZE).refused("word(0, 505, 24, true)", Due.SIZE).refused("word(0, 505, 25, true)", Due.FULL);
        Edge few = Edge.coast("few words");
        few.refused("word(-1, 504, 6, true)", Due.BEYOND).refused("word(0, 504, -1, true)", Due.BEYOND).refused("word(0, -1, 6, true)", Due.BEYOND);
    }

    // ---- 24

    /** "BEYOND." */
    static void promise24Beyond() {
        Edge x = Edge.coast("out").bounds("out(#, 5, 5)", 0, 4).bounds("out(1, #, 5)", 0, 99).bounds("out(1, 5, #)", 0, 999);
        x.refused("out(5, 100, 1000)", Due.BEYOND);
        Edge.sea("no LIGHT").refused("out(0, 0, 0)", Due.BEYOND);
    }

    /** "Whether a LIGHT is OUT on a day (0 to 99), AS KNOWN at an HOUR: 1, 0": a day and an HOUR to each side. */
    static void promise24DayAndHour() {
        Edge x = Edge.coast("out");
        x.tells("out(1, 2, 5)", 0).tells("out(1, 3, 5)", 1).tells("out(1, 4, 5)", 1).tells("out(1, 8, 5)", 1);
        x.tells("out(1, 9, 5)", 1).tells("out(1, 10, 5)", 0).tells("out(1, 3, 4)", 0).tells("out(1, 3, 6)", 1);
        x.tells("out(1, 5, 6)", 1).tells("out(1, 5, 7)", 0).tells("out(1, 5, 8)", 0).tells("out(1, 4, 7)", 1).tells("out(1, 6, 7)", 1);
        x.tells("out(4, 99, 7)", 1).tells("out(4, 98, 7)", 1).tells("out(4, 99, 6)", 0).tells("out(4, 2, 999)", 0);
        x.tells("out(0, 3, 999)", 0).tells("out(3, 0, 0)", 0);
    }

    /** THE DAY plays no part in it: days behind 19 are known too. */
    static void promise24WhateverTheDay() {
        for (int day : new int[] {0, 3, 19}) {
            Edge.coast("out").does("day(" + day + ")").tells("out(4, 19, 7)", 1).tells("out(4, 20, 7)", 1).tells("out(1, 3, 7)", 1);
        }
    }
}
