import java.util.ArrayList;
import java.util.Arrays;
import java.util.List;

/** Boundaries that stand in "What it is" and in the "Terms". */
final class EdgesOfTerms {
    private EdgesOfTerms() {
    }

    // ---- What it is

    /** "An object is used for at most 512 calls after it has been made". */
    static void whatItIsUsedFor512Calls() {
        for (int last = 511; last <= 512; last++) {
            CoastLights x = new CoastLights();
            for (int call = 1; call < last; call++) {
                Due.due("call " + call + ": haze", x.haze(call % 16), (call - 1) % 16);
            }
            Due.due("call " + last + ": haze", x.haze(0), (last - 1) % 16);
        }
        CoastLights y = new CoastLights();
        for (int call = 1; call < 512; call++) {
            Due.due("call " + call + ": undo", y.undo(), Due.NONE);
        }
        Due.due("call 512: 511 findings", y.all(6), 511);
        CoastLights z = new CoastLights();
        for (int call = 0; call < 510; call += 3) {
            Due.due("feed", z.feed(2, 22342), 2);
            Due.due("light", z.light(3, 255, 15), 0);
            Due.due("undo", z.undo(), 0);
        }
        Due.due("call 511: no LIGHTS", z.all(0), 0);
        Due.due("call 512: no finding", z.all(6), 0);
    }

    /** What the 513th call answers is free; but it answers. */
    static void whatItIsFreeBehind512Calls() {
        CoastLights x = new CoastLights();
        for (int call = 1; call <= 512; call++) {
            x.fairway(call % 256, call % 3 > 0);
        }
        for (int call = 513; call <= 2000; call++) {
            x.fairway(call % 256, call % 3 > 0);
            x.undo();
            x.kept();
        }
        Due.hold("it came through", true);
    }

    // ---- The findings

    /** "an act that answers a finding changes nothing": not even on an object on which nothing stands. */
    static void terms1FindingsChangeNothingOnANewObject() {
        Edge x = Edge.sea("a new object");
        for (String call : new String[] {"feed(0, 70)", "light(4, 0, 1)", "as(0, 0)", "lightIs(0, 0)", "at(0, 0)",
            "sector(0, 0, 0, 0)", "doubt(0, 0)", "direction(256, 0)", "colour(0, 0)", "seen(256)", "haze(16)", "day(20)",
            "apart(0, 1)", "allApart(1)", "fits(4)", "bearing(0, 0, 0)", "may(256)", "fairway(256, true)",
            "word(0, 0, 0, true)", "out(0, 0, 0)", "keeper(0, 0)", "limit(0, 0)", "seas(4)", "landing(20)", "proves(4)",
            "sheet(4, 8, 1)", "put(4, 0, 0)", "copy(4, 0, 0, 0, 0)", "all(7)"}) {
            x.refused(call, Due.BEYOND);
        }
        for (String call : new String[] {"fits(0)", "seas(0)", "proves(0)", "put(0, 0, 0)", "copy(0, 0, 1, 0, 0)"}) {
            x.refused(call, Due.MISSING);
        }
        x.refused("direction(0, 0)", Due.SIZE).refused("sheet(0, 8, -1)", Due.SIZE);
        x.refused("landing(0)", Due.NONE).refused("undo()", Due.NONE);
    }

    /** "Sets are told by bits": from the bit of LIGHT 0 to that of LIGHT 9. */
    static void terms1SetsAreToldByBits() {
        for (int many : new int[] {0, 1, 9, 10}) {
            Edge.sea(many + " LIGHTS").lights(many, 0).does("sheet(0, 8, 0)")
                .tells("seen(0)", (1 << many) - 1)
                .tells("fits(0)", (1 << many) - 1)
                .tries("allApart(" + (1 << many) + ")", Due.BEYOND);
        }
        Edge ten = Edge.sea("two of ten").lights(8, 0).light("FlW2s", 0, 40, 1).light("FlW3s", 0, 40, 1);
        ten.does("fairway(40, true)").tells("kept()", 768).tells("allApart(768)", 4).tells("seen(40)", 768);
    }

    // ---- 1

    /** "THE SEA has CELLS 0 to 255": in each call that has one. */
    static void terms1Cells0To255() {
        Edge.coast("a LIGHT'S CELL").feed("W5s").bounds("light(0, #, 1)", 0, 255);
        Edge x = Edge.coast("a CELL");
        x.bounds("direction(#, 5)", 0, 255).bounds("direction(5, #)", 0, 255);
        x.bounds("colour(0, #)", 0, 255).bounds("seen(#)", 0, 255).bounds("may(#)", 0, 255);
        x.bounds("fairway(#, true)", 0, 255).bounds("fairway(#, false)", 0, 255);
        for (int cell : new int[] {0, 1, 254, 255}) {
            Edge.sea("in CELL " + cell).light("FW", 2, cell, 1).does("fairway(" + cell + ", true)")
                .tells("lightIs(0, 1)", cell).tells("seen(" + cell + ")", 1).tells("colour(0, " + cell + ")", 0)
                .tells("may(" + cell + ")", 1).tells("all(3)", 1)
                .does("bearing(0, 0, 15)", "haze(15)").tells("fix(true)", cell).tells("fix(false)", 1);
        }
    }

    /** "CELL c is at x = c modulo 16 (east), y = c by 16 (north)": the corners, and the ends of a row. */
    static void terms1RowsOf16Cells() {
        Edge x = Edge.sea("rows");
        int[][] want = {{0, 15, 4}, {0, 240, 0}, {0, 255, 2}, {15, 0, 12}, {15, 240, 14}, {15, 255, 0}, {240, 0, 8},
            {240, 15, 6}, {240, 255, 4}, {255, 0, 10}, {255, 15, 8}, {255, 240, 12}, {14, 15, 4}, {15, 16, 12}, {16, 15, 4},
            {15, 31, 0}, {16, 17, 4}, {239, 240, 12}, {240, 239, 4}};
        for (int[] row : want) {
            x.tries("direction(" + row[0] + ", " + row[1] + ")", row[2]);
        }
        Edge.sea("no CELL is beside the next row's").light("FW", 0, 15, 14)
            .tells("seen(16)", 0).tells("seen(31)", 1).tells("seen(1)", 1).tells("seen(0)", 0);
    }

    /** "LIGHTS 0, 1, .. (at most 10)": the tenth is one in each call, the eleventh in none. */
    static void terms1AtMost10Lights() {
        Edge x = Edge.sea("ten ROCKS").lights(9, 1).tries("as(9, 1)", Due.BEYOND).lights(1, 3);
        for (int i : new int[] {8, 9}) {
            x.tries("as(" + i + ", 1)", i).tries("lightIs(" + i + ", 2)", 1).tries("at(" + i + ", 0)", 1);
            x.tries("sector(" + i + ", 0, 0, 0)", 1).tries("doubt(" + i + ", 0)", Due.KIND).tries("colour(" + i + ", 0)", 0);
            x.tries("bearing(" + i + ", 0, 0)", 1).tries("word(" + i + ", 0, 0, true)", 1).tries("out(" + i + ", 0, 0)", 0);
            x.tries("keeper(" + i + ", 0)", 0).tries("limit(" + i + ", 0)", 4).tries("apart(0, " + i + ")", Due.NONE);
        }
        for (String call : new String[] {"as(#, 1)", "lightIs(#, 0)", "at(#, 0)", "sector(#, 0, 0, 0)", "doubt(#, 0)",
            "colour(#, 0)", "bearing(#, 0, 0)", "word(#, 0, 0, true)", "out(#, 0, 0)", "keeper(#, 0)", "limit(#, 0)",
            "apart(#, 0)", "apart(0, #)"}) {
            x.refused(call.replace("#", "10"), Due.BEYOND).refused(call.replace("#", "-1"), Due.BEYOND);
        }
        x.refused("allApart(1024)", Due.BEYOND).refused("light(0, 0, 1)", Due.FULL);
    }

    /** "more than one may be in one". */
    static void terms1MoreThanOneInOneCell() {
        Edge.sea("one CELL").lights(1, 0).tells("seen(0)", 1).lights(1, 2).tells("seen(0)", 3).lights(1, 3)
            .tells("seen(0)", 7).tells("seen(1)", 3);
    }

    /** "a COLOUR (0 white, 1 red, 2 green)". */
    static void terms1Colours0To2() {
        Edge.sea("COLOURS").light("FW", 0, 0, 1).light("FR", 0, 0, 1).light("FG", 0, 0, 1)
            .tells("lightIs(0, 3)", 0).tells("lightIs(1, 3)", 1).tells("lightIs(2, 3)", 2);
    }

    /** "DIRECTIONS 0 to 15 .. (compared by turning, exactly)": every step that THE SEA has. */
    static void terms1DirectionsOfEveryStep() {
        int[][] told = {{0, 1}, {1, 2}, {1, 1}, {2, 1}, {1, 0}, {2, -1}, {1, -1}, {1, -2},
            {0, -1}, {-1, -2}, {-1, -1}, {-2, -1}, {-1, 0}, {-2, 1}, {-1, 1}, {-1, 2}};
        for (int y = -15; y <= 15; y++) {
            CoastLights sea = new CoastLights();
            for (int x = -15; x <= 15; x++) {
                if (x == 0 && y == 0) {
                    continue;
                }
                int from = Due.cell(x < 0 ? 15 : 0, y < 0 ? 15 : 0);
                int to = from + x + 16 * y;
                int d = sea.direction(from, to);
                int[] own = told[d & 15];
                int[] next = told[(d + 1) & 15];
                boolean notAheadOfIt = own[0] * y - own[1] * x <= 0 && own[0] * x + own[1] * y > 0;
                boolean aheadOfNext = next[0] * y - next[1] * x > 0;
                Due.hold("step (" + x + ", " + y + ") has " + d, notAheadOfIt && aheadOfNext);
            }
        }
    }

    /** "(turning; both with; over the turn, too)": every SECTOR, in every DIRECTION. */
    static void terms1SectorsOverTheTurn() {
        for (int from = 0; from < 16; from++) {
            for (int to = 0; to < 16; to++) {
                CoastLights x = new CoastLights();
                Due.light(x, "FW", 0, Due.cell(8, 8), 5);
                Due.due("sector", x.sector(0, from, to, 2), 1);
                for (int d = 0; d < 16; d++) {
                    boolean with = (d - from + 16) % 16 <= (to - from + 16) % 16;
                    Due.due("SECTOR " + from + " to " + to + " in " + d, x.colour(0, towards(d)), with ? 2 : 0);
                }
            }
        }
    }

    /** A CELL that lies in a DIRECTION from (8, 8). */
    private static int towards(int d) {
        int[] x = {0, 1, 1, 2, 1, 2, 1, 1};
        int[] y = {1, 2, 1, 1, 0, -1, -1, -2};
        int sign = d < 8 ? 1 : -1;
        return Due.cell(8 + sign * x[d % 8], 8 + sign * y[d % 8]);
    }

    /** "of several the latest told that has the DIRECTION; without any its own COLOUR". */
    static void terms1TheLatestSectorThatHasIt() {
        Edge.sea("SECTORS").light("FR", 0, Due.cell(8, 8), 5)
            .tells("colour(0, " + towards(3) + ")", 1)
            .does("sector(0, 2, 4, 0)", "sector(0, 3, 5, 2)", "sector(0, 5, 5, 3)", "sector(0, 2, 2, 1)")
            .tells("colour(0, " + towards(1) + ")", 1)
            .tells("colour(0, " + towards(2) + ")", 1)
            .tells("colour(0, " + towards(3) + ")", 2)
            .tells("colour(0, " + towards(4) + ")", 2)
            .tells("colour(0, " + towards(5) + ")", 3)
            .tells("colour(0, " + towards(6) + ")", 1)
            .does("undo()").tells("colour(0, " + towards(2) + ")", 0);
    }

    /** "in its own CELL it shows its own COLOUR. TOWERS are dark where no SECTOR is". */
    static void terms1OwnCellAndTowers() {
        int here = Due.cell(8, 8);
        Edge.sea("own CELL").light("FG", 0, here, 5).light("FR", 3, here, 5)
            .tells("colour(1, " + here + ")", 1).tells("seen(" + here + ")", 3)
            .tells("colour(1, " + (here + 1) + ")", 3).tells("seen(" + (here + 1) + ")", 1)
            .does("sector(0, 0, 15, 3)", "sector(1, 4, 4, 0)")
            .tells("colour(0, " + here + ")", 2).tells("colour(1, " + here + ")", 1).tells("seen(" + here + ")", 3)
            .tells("colour(0, " + (here + 1) + ")", 3).tells("colour(1, " + (here + 1) + ")", 0)
            .tells("colour(1, " + towards(3) + ")", 3).tells("colour(1, " + towards(5) + ")", 3)
            .tells("seen(" + (here + 1) + ")", 2).tells("seen(" + (here - 1) + ")", 0);
    }

    /** "REACH: the RANGE less the HAZE (..), 0 at least": a step below 0 it does not grow again. */
    static void terms1Reach0AtLeast() {
        int here = Due.cell(8, 8);
        int[] hazes = {4, 5, 6, 7, 15};
        for (int haze : hazes) {
            int near = haze == 4 ? 1 : 0;
            Edge.sea("RANGE 5, HAZE " + haze).light("FW", 2, here, 5).does("haze(" + haze + ")", "bearing(0, 0, 15)")
                .tells("seen(" + here + ")", 1)
                .tells("seen(" + (here + 1) + ")", near).tells("may(" + (here + 1) + ")", near)
                .tells("seen(" + (here + 2) + ")", 0).tells("may(" + (here + 2) + ")", 0)
                .tells("fix(false)", near == 1 ? 5 : 1);
        }
    }

    /** "squared each, come together to the square of the REACH at most": each RANGE, HAZE and CELL. */
    static void terms1SeenAtTheReach() {
        for (int range = 1; range <= 15; range++) {
            for (int haze = 0; haze <= 15; haze++) {
                CoastLights x = new CoastLights();
                Due.light(x, "FW", 0, Due.cell(3, 2), range);
                x.haze(haze);
                int reach = Math.max(0, range - haze);
                for (int cell = 0; cell < 256; cell++) {
                    int east = cell % 16 - 3;
                    int north = cell / 16 - 2;
                    int want = east * east + north * north <= reach * reach ? 1 : 0;
                    Due.due("RANGE " + range + ", HAZE " + haze + ", CELL " + cell, x.seen(cell), want);
                }
            }
        }
    }

    /** "it is not OUT on THE DAY (0 at first)": a day to each side of the first and of the last. */
    static void terms1NotOutOnTheDay() {
        Edge.sea("on THE DAY").lights(1, 0).does("word(0, 0, 0, true)").tells("seen(0)", 0).does("day(1)").tells("seen(0)", 1);
        for (int day = 3; day <= 8; day++) {
            Edge.sea("day " + day).lights(1, 0).does("word(0, 407, 999, true)", "day(" + day + ")")
                .tells("seen(0)", day < 4 || day > 7 ? 1 : 0);
        }
    }

    // ---- 2

    private static int fault(String text) {
        CoastLights x = new CoastLights();
        int answer = Due.light(x, text, 0, 0, 1);
        Due.due("no finding by " + text, x.all(6), 0);
        Due.due("THE TAPE behind " + text, x.all(5), 0);
        return answer >= 0 ? -1 : -1 - answer;
    }

    /** "THE TAPE (40 bytes at most)": by each count of bytes that leads to its end. */
    static void terms2TapeOf40Bytes() {
        for (int n = 1; n <= 8; n++) {
            Edge x = Edge.sea("THE TAPE by " + n).feed("F".repeat(40 - n));
            x.tries("feed(" + n + ", 70)", 40);
            if (n < 8) {
                x.refused("feed(" + (n + 1) + ", 70)", Due.FULL);
            }
            x.does("feed(" + n + ", 70)").tells("all(5)", 40);
            x.refused("feed(1, 70)", Due.FULL).refused("feed(8, 70)", Due.FULL);
        }
        Due.due("40 bytes are read", fault("FW" + " ".repeat(38)), 2);
    }

    /** "NUMBERS: digits, 2 at most": none, 1, 2 and 3, of both NUMBERS. */
    static void terms2NumbersOf2Digits() {
        Due.due("no digit", fault("Fl()W9s"), 3);
        Due.due("1 digit", fault("Fl(1)W9s"), -1);
        Due.due("2 digits", fault("Fl(01)W9s"), -1);
        Due.due("3 digits", fault("Fl(001)W9s"), 5);
        Due.due("no digit of PERIOD", fault("FlWs"), 3);
        Due.due("1 digit of PERIOD", fault("FlW9s"), -1);
        Due.due("2 digits of PERIOD", fault("FlW09s"), -1);
        Due.due("3 digits of PERIOD", fault("FlW009s"), 5);
        for (String sign : new String[] {"/", ":", "-", "+", "\u00b9"}) {
            Due.due("no digit: " + sign, fault("FlW" + sign + "s"), 3);
            Due.due("no second digit: " + sign, fault("FlW1" + sign + "s"), 4);
        }
        for (int digit = 2; digit <= 9; digit++) {
            Due.due("digit " + digit, fault("FlW" + digit + "s"), -1);
        }
    }

    private static final String[] TEXTS = {"FW", "FR", "FG", "Fl(12)W30s", "FlR5s", "Oc(2)G9s", "OcW10s", "Q(03)W7s", "QG3s", "IsoR28s"};

    /** "(the length, if it ends too early)": each beginning of a text; a sign more can't stand. */
    static void terms2EndsTooEarly() {
        for (String text : TEXTS) {
            for (int length = 0; length < text.length(); length++) {
                Due.due("ends too early: " + text.substring(0, length), fault(text.substring(0, length)), length);
            }
            Due.due("ends in time: " + text, fault(text), -1);
            Due.due("ends too late: " + text, fault(text + "s"), text.length());
            Due.due("twice: " + text, fault(text + text), text.length());
        }
    }

    /** A TEXT ends where it ends, whatever bytes stood on THE TAPE ahead of it. */
    static void terms2EndsTooEarlyBehindAnother() {
        List<String> ahead = new ArrayList<>(Arrays.asList(TEXTS));
        for (String sign : new String[] {"F", "l", "s", "(", ")", "W", "0", "9"}) {
            ahead.add(sign.repeat(40));
        }
        for (String text : TEXTS) {
            for (String before : ahead) {
                for (int length = 0; length < text.length(); length++) {
                    String early = text.substring(0, length);
                    CoastLights x = new CoastLights();
                    Due.light(x, before, 0, 0, 1);
                    Due.due(early + " behind " + before, Due.light(x, early, 0, 0, 1), -1 - length);
                }
            }
        }
    }

    /** "FAULT: the first byte that can't stand there": each byte at each place of these texts. */
    static void terms2FirstByteThatCantStand() {
        for (String text : TEXTS) {
            for (int place = 0; place <= text.length(); place++) {
                for (int sign = 0; sign < 256; sign++) {
                    String other = text.substring(0, place) + (char) sign
                        + (place < text.length() ? text.substring(place + 1) : "");
                    SlowCoast slow = new SlowCoast();
                    for (int i = 0; i < other.length(); i++) {
                        slow.feed(1, other.charAt(i));
                    }
                    int want = slow.light(0, 0, 1);
                    Due.due("byte " + sign + " at " + place + " of " + text, fault(other), want >= 0 ? -1 : -1 - want);
                }
            }
        }
        Due.due("two of them", fault("FlW5x x"), 4);
        Due.due("a byte ahead of PERIOD", fault("Fl(0)W0x"), 7);
        Due.due("too early ahead of PERIOD", fault("Fl(0)W0"), 7);
    }

    /** "if that is not 1 to 30, or the RHYTHM does not go into it": each n with each PERIOD, a step beyond both. */
    static void terms2PeriodsAndTimes() {
        for (int period = 0; period <= 99; period += period < 33 ? 1 : 22) {
            boolean is = period >= 1 && period <= 30;
            goesIn("Iso", period, is && period % 2 == 0);
            goesIn("Fl", period, is && period >= 2);
            goesIn("Oc", period, is && period >= 2);
            goesIn("Q", period, is && period >= 3);
            for (int n = 0; n <= 99; n += n < 17 ? 1 : 41) {
                boolean both = is && n >= 1 && n <= 15;
                goesIn("Fl(" + n + ")", period, both && 2 * n <= period);
                goesIn("Oc(" + n + ")", period, both && 2 * n <= period);
                goesIn("Q(" + n + ")", period, both && 2 * n + 1 <= period);
            }
        }
    }

    private static void goesIn(String rhythm, int period, boolean does) {
        String text = rhythm + "R" + period + "s";
        Due.due(text, fault(text), does ? -1 : rhythm.length() + 1);
    }

    /** "n times 1 second light and 1 dark, then dark to the end": where it just goes in, and a second more. */
    static void terms2SecondsOfRhythms() {
        seconds("FW", "#");
        seconds("IsoW2s", "#.");
        seconds("IsoW4s", "##..");
        seconds("IsoW30s", "#".repeat(15) + ".".repeat(15));
        for (int n : new int[] {1, 2, 14, 15}) {
            seconds("Fl(" + n + ")W" + 2 * n + "s", "#.".repeat(n));
            seconds("Oc(" + n + ")W" + 2 * n + "s", ".#".repeat(n));
            if (n < 15) {
                seconds("Fl(" + n + ")W" + (2 * n + 1) + "s", "#.".repeat(n) + ".");
                seconds("Oc(" + n + ")W" + (2 * n + 1) + "s", ".#".repeat(n) + "#");
                seconds("Q(" + n + ")W" + (2 * n + 1) + "s", "#.".repeat(n) + ".");
                seconds("Q(" + n + ")W" + (2 * n + 2) + "s", "#.".repeat(n) + "..");
            }
        }
        seconds("FlW30s", "#" + ".".repeat(29));
        seconds("OcW30s", "." + "#".repeat(29));
        seconds("QW30s", "#" + ".".repeat(29));
        seconds("FlW2s", "#.");
        seconds("OcW2s", ".#");
        seconds("QW3s", "#..");
    }

    private static void seconds(String text, String row) {
        CoastLights x = new CoastLights();
        Due.due("light by " + text, Due.light(x, text, 0, 0, 1), 0);
        Due.due("seconds of " + text, x.lightIs(0, 4), row.length());
        Due.due("light of " + text, x.lightIs(0, 5), row.replace(".", "").length());
        for (int i = 0; i <= 2 * row.length(); i++) {
            Due.due(text + " at " + i, x.at(0, i), row.charAt(i % row.length()) == '#' ? 1 : 0);
        }
    }

    /** "the least n (1 or more), or there is none": of texts two by two. */
    static void terms2TheLeastSecondsApart() {
        List<String> texts = Arrays.asList("FW", "IsoW2s", "IsoW4s", "IsoW28s", "IsoW30s", "FlW2s", "FlW3s", "FlW28s", "FlW29s",
            "FlW30s", "Fl(2)W4s", "Fl(2)W5s", "Fl(14)W29s", "Fl(15)W30s", "Fl(14)W30s", "OcW2s", "OcW3s", "OcW29s", "OcW30s",
            "Oc(2)W4s", "Oc(2)W30s", "Oc(14)W29s", "Oc(15)W30s", "QW3s", "QW4s", "Q(2)W5s", "Q(14)W29s", "Q(14)W30s");
        for (String a : texts) {
            for (String b : texts) {
                CoastLights x = new CoastLights();
                SlowCoast y = new SlowCoast();
                for (String text : new String[] {a, b}) {
                    Due.light(x, text, 0, 0, 1);
                    for (int i = 0; i < text.length(); i++) {
                        y.feed(1, text.charAt(i));
                    }
                    y.light(0, 0, 1);
                }
                Due.due("apart: " + a + " and " + b, x.apart(0, 1), y.apart(0, 1));
            }
        }
    }

    // ---- 3

    /** "that the DIRECTION to it was one from one to another one (turning, both with)": every BEARING. */
    static void terms3BearingsOverTheTurn() {
        for (int from = 0; from < 16; from++) {
            for (int to = 0; to < 16; to++) {
                CoastLights x = new CoastLights();
                Due.light(x, "FW", 0, Due.cell(8, 8), 5);
                Due.due("bearing", x.bearing(0, from, to), 1);
                for (int d = 0; d < 16; d++) {
                    boolean with = ((d + 8) % 16 - from + 16) % 16 <= (to - from + 16) % 16;
                    Due.due("BEARING " + from + " to " + to + " from " + d, x.may(towards(d)), with ? 1 : 0);
                }
                Due.due("from its own CELL all are", x.may(Due.cell(8, 8)), 1);
            }
        }
    }

    /** "CELLS that hold for all BEARINGS": none of them, all, and all but one. */
    static void terms3AllBearings() {
        Edge x = Edge.sea("all BEARINGS").tells("fix(false)", 256).light("FW", 0, Due.cell(8, 8), 3);
        x.does("bearing(0, 4, 4)").tells("fix(false)", 4).tells("fix(true)", Due.cell(5, 8));
        for (int i = 0; i < 6; i++) {
            x.does("bearing(0, 0, 15)");
        }
        x.tells("fix(false)", 4).does("bearing(0, 8, 8)").tells("fix(false)", 1).tells("fix(true)", Due.cell(8, 8));
        x.does("undo()").tells("fix(false)", 4);
    }

    /** "(x and y each by that at most, in THE SEA)": each DOUBT by the SEA's edge, a CELL off it and far from it. */
    static void terms3DoubtInTheSea() {
        int[][] steps = directionsOfSteps();
        for (int[] at : new int[][] {{8, 8}, {0, 0}, {1, 1}, {15, 15}, {14, 14}, {0, 15}, {15, 0}, {15, 8}, {8, 15}}) {
            for (int doubt = 0; doubt <= 3; doubt++) {
                for (int range = 1; range <= 4; range++) {
                    for (int d = 0; d < 16; d++) {
                        doubtful(steps, at, doubt, range, d);
                    }
                }
            }
        }
    }

    private static int[][] directionsOfSteps() {
        int[][] steps = new int[31][31];
        for (int y = -15; y <= 15; y++) {
            CoastLights sea = new CoastLights();
            for (int x = -15; x <= 15; x++) {
                int from = Due.cell(x < 0 ? 15 : 0, y < 0 ? 15 : 0);
                steps[y + 15][x + 15] = sea.direction(from, from + x + 16 * y);
            }
        }
        return steps;
    }

    private static void doubtful(int[][] steps, int[] at, int doubt, int range, int direction) {
        CoastLights x = new CoastLights();
        Due.light(x, "FW", 2, Due.cell(at[0], at[1]), range + 1);
        x.doubt(0, doubt);
        x.haze(1);
        x.bearing(0, direction, direction);
        for (int cell = 0; cell < 256; cell++) {
            boolean holds = false;
            for (int place = 0; place < 256; place++) {
                int off = Math.max(Math.abs(place % 16 - at[0]), Math.abs(place / 16 - at[1]));
                int east = place % 16 - cell % 16;
                int north = place / 16 - cell / 16;
                boolean there = place == cell || steps[north + 15][east + 15] == direction;
                holds |= off <= doubt && there && east * east + north * north <= range * range;
            }
            Due.due("DOUBT " + doubt + " by (" + at[0] + ", " + at[1] + "), REACH " + range + ", DIRECTION " + direction
                + ", CELL " + cell, x.may(cell), holds ? 1 : 0);
        }
    }

    /** "two at least are SEEN from each CELL of THE FAIRWAY": none, one, two. */
    static void terms3TwoAtLeast() {
        Edge.sea("two at least").does("fairway(0, true)").refused("kept()", Due.NONE)
            .lights(1, 0).refused("kept()", Due.NONE).lights(1, 0).tells("kept()", 3).lights(1, 0).tells("kept()", 3)
            .does("fairway(1, true)").tells("kept()", 3).does("fairway(2, true)").refused("kept()", Due.NONE);
    }

    /** "the fewest LIGHTS ..; of several the least as bits". */
    static void terms3TheFewestTheLeastAsBits() {
        Edge.sea("the fewest").light("FW", 0, 0, 1).light("FW", 0, 0, 1).light("FW", 0, 4, 1).light("FW", 0, 4, 1)
            .does("fairway(0, true)", "fairway(4, true)").tells("kept()", 15)
            .light("FW", 0, 2, 2).tells("kept()", 21)
            .light("FW", 0, 2, 2).tells("kept()", 48)
            .light("FW", 0, 2, 2).tells("kept()", 48)
            .does("word(4, 0, 0, true)").tells("kept()", 96);
    }

    // ---- 4

    /** "on a day the latest word for it holds". */
    static void terms4TheLatestWordHolds() {
        Edge x = Edge.sea("words").lights(2, 0);
        x.does("word(0, 310, 5, true)", "word(0, 508, 5, false)", "word(0, 606, 6, true)", "word(1, 99, 7, false)");
        int[] out = {0, 0, 0, 1, 1, 0, 1, 0, 0, 1, 1, 0};
        for (int day = 0; day < out.length; day++) {
            x.tries("out(0, " + day + ", 999)", out[day]).tries("out(1, " + day + ", 999)", 0);
        }
    }

    /** "AS KNOWN: of those told by an HOUR": an HOUR to each side. */
    static void terms4AsKnownByAnHour() {
        Edge.sea("AS KNOWN").lights(1, 0).does("word(0, 0, 0, true)", "word(0, 0, 10, false)", "word(0, 0, 999, true)")
            .tells("out(0, 0, 0)", 1).tells("out(0, 0, 9)", 1).tells("out(0, 0, 10)", 0).tells("out(0, 0, 11)", 0)
            .tells("out(0, 0, 998)", 0).tells("out(0, 0, 999)", 1);
    }

    /** "HOURS (rising, 0 to 999)", "days .. (0 to 99)". */
    static void terms4HoursAndDays() {
        Edge x = Edge.sea("HOURS and days").lights(1, 0);
        x.bounds("word(0, 0, #, true)", 0, 999).bounds("out(0, 0, #)", 0, 999).bounds("out(0, #, 0)", 0, 99);
        x.does("word(0, 99, 0, true)").tells("out(0, 0, 0)", 1).tells("out(0, 99, 0)", 1);
        x.does("word(0, 9999, 0, false)").tells("out(0, 98, 0)", 1).tells("out(0, 99, 0)", 0);
        x.does("word(0, 0, 0, false)").tells("out(0, 0, 0)", 0).tells("out(0, 1, 0)", 1);
    }

    // ---- 5

    /** "KEEPERS: on each ROCK (TOWERS, too) there is one since a day (0 at first)"; "LIMIT (..; 4 at first)". */
    static void terms5AtFirst() {
        Edge x = Edge.sea("at first").lights(1, 0).lights(1, 1).lights(1, 2).lights(1, 3);
        x.tries("keeper(1, 5)", 0).tries("keeper(3, 5)", 0).tries("limit(1, 5)", 4).tries("limit(3, 5)", 4);
        x.refused("keeper(0, 5)", Due.KIND).refused("keeper(2, 5)", Due.KIND);
        x.refused("limit(0, 5)", Due.KIND).refused("limit(2, 5)", Due.KIND);
        x.does("day(19)").sheet(0, 8, 1).tells("proves(0)", -1);
    }

    /** "LANDED on a day if the SEA is at most its LIMIT (0 to 9; ..)": each height and LIMIT. */
    static void terms5SeaAtMostItsLimit() {
        for (int limit = 0; limit <= 9; limit++) {
            for (int height = 0; height <= 9; height++) {
                Edge.sea("LIMIT " + limit + ", SEA " + height).lights(1, 1)
                    .sheet(0, 8, 9, 9, 9, 9, 9, 9, 9, 9, 9, 9, 9, 9, 9, 9, 9, 9, 9, 9, 9, height).does("seas(0)")
                    .does("limit(0, " + limit + ")", "day(19)").sheet(1, 8, 0)
                    .tries("landing(19)", height <= limit ? 0 : Due.NONE)
                    .tries("overdue()", height <= limit ? 9 : 10)
                    .tries("proves(1)", height <= limit ? -1 : 0);
            }
        }
    }

    /** "OVERDUE: days beyond 10 since the keeper came": on day 19 and, not LANDED, on day 20. */
    static void terms5DaysBeyond10() {
        for (int since = 0; since <= 19; since++) {
            int on19 = Math.max(0, 19 - since - 10);
            int on20 = Math.max(0, 20 - since - 10);
            Edge x = Edge.sea("since " + since).lights(1, 1).does("keeper(0, " + since + ")", "day(19)");
            x.tries("overdue()", on19).tries("landing(19)", on20 > on19 ? 0 : Due.NONE);
            x.sheet(0, 8, -1).tries("proves(0)", on20 > on19 ? 1 : -1);
            x.does("limit(0, 0)").sheet(1, 8, 9, 9, 9, 9, 9, 9, 9, 9, 9, 9, 9, 9, 9, 9, 9, 9, 9, 9, 9, 9).does("seas(1)");
            x.tries("overdue()", on20).tries("landing(19)", Due.NONE).tries("proves(0)", -1);
        }
    }

    /** "for each day from THE DAY to 19": each DAY has so many days for ROCKS. */
    static void terms5FromTheDayTo19() {
        for (int day : new int[] {0, 1, 18, 19}) {
            Edge x = Edge.sea("from day " + day).lights(1, 1).does("day(" + day + ")");
            int landed = Math.max(10, day);
            for (int d : new int[] {0, 1, 9, 10, 11, 17, 18, 19}) {
                x.tries("landing(" + d + ")", d == landed ? 0 : Due.NONE);
            }
            x.tries("overdue()", landed - 10);
        }
    }

    /** "each ROCK once at most", "one ROCK a day": more ROCKS than days, as many, fewer. */
    static void terms5OneRockADayOnce() {
        Edge.sea("three ROCKS, two days").lights(3, 1).does("day(18)")
            .tells("overdue()", 8 + 9 + 10).tells("landing(18)", 0).tells("landing(19)", 1);
        Edge.sea("two ROCKS, two days").lights(2, 1).does("day(18)")
            .tells("overdue()", 8 + 9).tells("landing(18)", 0).tells("landing(19)", 1);
        Edge.sea("one ROCK, two days").lights(1, 1).does("day(18)")
            .tells("overdue()", 8).tells("landing(18)", 0).refused("landing(19)", Due.NONE);
        Edge ten = Edge.sea("ten ROCKS").lights(10, 3);
        ten.tells("overdue()", 0);
        for (int d = 0; d < 20; d++) {
            ten.tries("landing(" + d + ")", d >= 1 && d <= 10 ? d - 1 : Due.NONE);
        }
        ten.does("day(1)").tells("overdue()", 0).tells("landing(1)", 0).tells("landing(10)", 9);
        ten.does("day(2)").tells("overdue()", 1).tells("landing(2)", 0).tells("landing(11)", 9);
    }

    /** "of several the first: day by day, none ahead of ROCKS, ROCKS by numbers". */
    static void terms5OfSeveralTheFirst() {
        Edge.sea("by numbers").lights(1, 0).lights(1, 3).lights(1, 2).lights(1, 1).does("day(15)")
            .tells("landing(15)", 1).tells("landing(16)", 3)
            .does("keeper(1, 1)").tells("landing(15)", 1).tells("landing(16)", 3)
            .does("keeper(1, 5)").tells("landing(15)", 1).tells("landing(16)", 3)
            .does("keeper(1, 6)").tells("landing(15)", 3).tells("landing(16)", 1)
            .does("keeper(1, 7)").tells("landing(15)", 3).refused("landing(16)", Due.NONE).tells("landing(17)", 1);
    }

    // ---- 6

    /** "SHEETS 0 to 3": in each call that has one. */
    static void terms6Sheets0To3() {
        Edge x = Edge.sea("sheets").lights(1, 1).does("day(19)");
        for (int s = 0; s < 4; s++) {
            x.does("sheet(" + s + ", 8, 1)");
        }
        for (String call : new String[] {"fits(#)", "seas(#)", "proves(#)", "sheet(#, 8, 1)", "put(#, 0, 1)",
            "copy(#, 0, 1, 0, 1)", "copy(1, 0, #, 0, 1)"}) {
            x.bounds(call, 0, 3);
        }
        x.does("put(0, 0, 1)").tells("fits(0)", 1).tells("fits(1)", 0).tells("fits(3)", 0);
        x.does("put(3, 0, 1)", "put(0, 0, 0)").tells("fits(0)", 0).tells("fits(3)", 1);
    }

    /** "rows of up to 30 numbers": the last that each sheet has, and a step beyond. */
    static void terms6UpTo30Numbers() {
        for (int n : new int[] {0, 1, 29, 30}) {
            Edge x = Edge.sea(n + " numbers").does("sheet(0, 8, " + n + ")", "sheet(1, 8, 30)");
            x.refused("put(0, " + n + ", 1)", Due.BEYOND).refused("put(0, -1, 1)", Due.BEYOND);
            x.tries("copy(0, 0, 1, 0, " + n + ")", n).tries("copy(1, 0, 0, 0, " + n + ")", n);
            x.refused("copy(0, 0, 1, 0, " + (n + 1) + ")", Due.BEYOND).refused("copy(1, 0, 0, 0, " + (n + 1) + ")", Due.BEYOND);
            if (n > 0) {
                x.tries("put(0, " + (n - 1) + ", 1)", 0);
            }
        }
        Edge.sea("no 31").refused("sheet(0, 8, 31)", Due.BEYOND);
    }

    /** "or MISSING (all, at first)". */
    static void terms6MissingAtFirst() {
        Edge x = Edge.sea("MISSING");
        for (int s = 0; s < 4; s++) {
            x.refused("fits(" + s + ")", Due.MISSING).refused("put(" + s + ", 0, 0)", Due.MISSING);
        }
    }
}
