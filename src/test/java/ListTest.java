/** Promises 1 to 8: a new object, THE TAPE, the list's texts, LIGHTS, SECTORS, DOUBT. */
public final class ListTest {
    public static void main(String[] args) {
        newObject();
        feed();
        faults();
        rhythmsThatDoNotGoIn();
        light();
        as();
        lightIs();
        at();
        sector();
        doubt();
        Due.end();
    }

    private static void newObject() {
        CoastLights x = new CoastLights();
        for (int what = 0; what <= 6; what++) {
            Due.due("1: all(" + what + ")", x.all(what), 0);
        }
        for (int s = 0; s < 4; s++) {
            Due.due("1: put(" + s + ", 0, 0)", x.put(s, 0, 0), Due.MISSING);
        }
        Due.due("1: undo()", x.undo(), Due.NONE);
        Due.due("1: haze(0)", x.haze(0), 0);
        Due.due("1: day(0)", x.day(0), 0);
        Due.due("1: seen(0)", x.seen(0), 0);
        Due.due("1: kept()", x.kept(), 0);
        Due.due("1: overdue()", x.overdue(), 0);
        Due.due("1: fix(false)", x.fix(false), 256);
    }

    private static void feed() {
        CoastLights x = new CoastLights();
        Due.due("2: feed(0)", x.feed(0, 1), Due.BEYOND);
        Due.due("2: feed(9)", x.feed(9, 1), Due.BEYOND);
        Due.due("2: feed(MIN)", x.feed(Due.MIN, 1), Due.BEYOND);
        Due.due("2: feed(MAX)", x.feed(Due.MAX, 1), Due.BEYOND);
        for (int i = 1; i <= 4; i++) {
            Due.due("2: feed(8) " + i, x.feed(8, -1L), 8 * i);
        }
        Due.due("2: feed(7)", x.feed(7, 0), 39);
        Due.due("2: feed(2) is one too many", x.feed(2, 0), Due.FULL);
        Due.due("2: it took nothing", x.all(5), 39);
        Due.due("2: feed(1) to 40", x.feed(1, 0), 40);
        Due.due("2: feed(1) beyond 40", x.feed(1, 0), Due.FULL);
        Due.due("2: BEYOND ahead of FULL", x.feed(0, 0), Due.BEYOND);
        Due.due("2: the higher bytes are not looked at", fedHigh(), 0);
    }

    private static int fedHigh() {
        CoastLights x = new CoastLights();
        x.feed(2, 0x7777777777770000L | 'F' | 'W' << 8);
        return x.light(0, 0, 1);
    }

    private static void fault(String text, int place) {
        CoastLights x = new CoastLights();
        Due.due("3: light by " + text, Due.light(x, text, 0, 0, 1), -1 - place);
        Due.due("3: no LIGHT came by " + text, x.all(0), 0);
        Due.due("3: THE TAPE is empty behind " + text, x.all(5), 0);
        Due.due("3: a FAULT is no finding: " + text, x.all(6), 0);
        Due.due("3: a FAULT is not undone: " + text, x.undo(), Due.NONE);
    }

    private static void stands(String text, int seconds, int lit, int colour) {
        CoastLights x = new CoastLights();
        Due.due("3: light by " + text, Due.light(x, text, 0, 0, 1), 0);
        Due.due("3: seconds of " + text, x.lightIs(0, 4), seconds);
        Due.due("3: light of " + text, x.lightIs(0, 5), lit);
        Due.due("3: COLOUR of " + text, x.lightIs(0, 3), colour);
        Due.due("3: THE TAPE behind " + text, x.all(5), 0);
    }

    private static void faults() {
        fault("", 0);
        fault("X", 0);
        fault(" FW", 0);
        fault("f", 0);
        fault("F", 1);
        fault("Fx", 1);
        fault("F(1)W", 1);
        fault("FW ", 2);
        fault("FW5s", 2);
        fault("O", 1);
        fault("OW5s", 1);
        fault("Oc", 2);
        fault("I", 1);
        fault("IW", 1);
        fault("Is", 2);
        fault("IsW", 2);
        fault("Iso", 3);
        fault("Iso(1)W4s", 3);
        fault("Fl", 2);
        fault("FlX", 2);
        fault("FlW", 3);
        fault("FlWs", 3);
        fault("FlW5", 4);
        fault("FlW5S", 4);
        fault("FlW15", 5);
        fault("FlW115s", 5);
        fault("FlW5ss", 5);
        fault("FlW5s ", 5);
        fault("Fl(", 3);
        fault("Fl()W5s", 3);
        fault("Fl(2", 4);
        fault("Fl(2W5s", 4);
        fault("Fl(12", 5);
        fault("Fl(123)W5s", 5);
        fault("Fl(2)", 5);
        fault("Fl(2)(2)W9s", 5);
        fault("Fl (2)W9s", 2);
        fault("QB5s", 1);
        fault("QlW5s", 1);
        fault("Q(1)W5", 6);
        fault("F\u00e6", 1);
    }

    private static void rhythmsThatDoNotGoIn() {
        fault("FlW0s", 3);
        fault("FlW00s", 3);
        fault("FlW31s", 3);
        fault("FlW99s", 3);
        fault("FlW1s", 3);
        stands("FlW2s", 2, 1, 0);
        stands("FlW02s", 2, 1, 0);
        stands("FlR30s", 30, 1, 1);
        fault("Fl(0)W5s", 6);
        fault("Fl(00)W5s", 7);
        fault("Fl(16)W30s", 7);
        fault("Fl(99)W30s", 7);
        fault("Fl(15)W29s", 7);
        stands("Fl(15)G30s", 30, 15, 2);
        stands("Fl(01)G3s", 3, 1, 2);
        fault("OcW1s", 3);
        stands("OcW2s", 2, 1, 0);
        fault("Oc(3)W5s", 6);
        stands("Oc(3)W6s", 6, 3, 0);
        stands("Oc(3)W7s", 7, 4, 0);
        stands("Oc(15)W30s", 30, 15, 0);
        fault("Oc(0)W6s", 6);
        fault("Oc(16)W30s", 7);
        fault("QW2s", 2);
        stands("QW3s", 3, 1, 0);
        fault("Q(3)W6s", 5);
        stands("Q(3)W7s", 7, 3, 0);
        fault("Q(15)W30s", 6);
        stands("Q(14)W29s", 29, 14, 0);
        fault("Q(0)W9s", 5);
        fault("IsoW1s", 4);
        fault("IsoW3s", 4);
        fault("IsoW0s", 4);
        fault("IsoW32s", 4);
        stands("IsoW2s", 2, 1, 0);
        stands("IsoR30s", 30, 15, 1);
        stands("FW", 1, 1, 0);
        stands("FR", 1, 1, 1);
        stands("FG", 1, 1, 2);
        fault("FB", 1);
    }

    private static void light() {
        CoastLights x = new CoastLights();
        Due.feed(x, "FW");
        Due.due("3: kind -1", x.light(-1, 0, 1), Due.BEYOND);
        Due.due("3: kind 4", x.light(4, 0, 1), Due.BEYOND);
        Due.due("3: cell -1", x.light(0, -1, 1), Due.BEYOND);
        Due.due("3: cell 256", x.light(0, 256, 1), Due.BEYOND);
        Due.due("3: range 0", x.light(0, 0, 0), Due.BEYOND);
        Due.due("3: range 16", x.light(0, 0, 16), Due.BEYOND);
        Due.due("3: THE TAPE stays", x.all(5), 2);
        Due.due("3: by what stayed", x.light(3, 255, 15), 0);
        for (int i = 1; i < 10; i++) {
            Due.due("3: light " + i, Due.light(x, "FW", 0, 7, 1), i);
        }
        Due.feed(x, "bad");
        Due.due("3: an eleventh", x.light(0, 0, 1), Due.FULL);
        Due.due("3: BEYOND ahead of FULL", x.light(4, 0, 1), Due.BEYOND);
        Due.due("3: THE TAPE stays when full", x.all(5), 3);
        Due.due("3: there are 10", x.all(0), 10);
        Due.due("3: none was taken back", x.undo(), 9);
        Due.due("3: now the text is read", x.light(0, 0, 1), -1);
        Due.due("3: and taken", x.all(5), 0);
    }

    private static void as() {
        CoastLights x = new CoastLights();
        Due.due("4: no LIGHT", x.as(0, 0), Due.BEYOND);
        boolean[][] is = {
            {true, false, false, false},
            {true, true, false, false},
            {true, false, true, false},
            {true, true, false, true},
        };
        for (int kind = 0; kind < 4; kind++) {
            Due.light(x, "FW", kind, 0, 1);
        }
        for (int i = 0; i < 4; i++) {
            for (int kind = 0; kind < 4; kind++) {
                Due.due("4: as(" + i + ", " + kind + ")", x.as(i, kind), is[i][kind] ? i : Due.KIND);
            }
            Due.due("4: kind -1", x.as(i, -1), Due.BEYOND);
            Due.due("4: kind 4", x.as(i, 4), Due.BEYOND);
        }
        Due.due("4: light -1", x.as(-1, 0), Due.BEYOND);
        Due.due("4: light 4", x.as(4, 0), Due.BEYOND);
    }

    private static void lightIs() {
        CoastLights x = new CoastLights();
        Due.due("5: no LIGHT", x.lightIs(0, 0), Due.BEYOND);
        Due.light(x, "Oc(2)G9s", 2, 200, 13);
        x.sector(0, 1, 2, 3);
        x.sector(0, 1, 2, 3);
        x.doubt(0, 3);
        int[] want = {2, 200, 13, 2, 9, 7, 2, 3};
        for (int what = 0; what < 8; what++) {
            Due.due("5: lightIs(0, " + what + ")", x.lightIs(0, what), want[what]);
        }
        Due.due("5: what 8", x.lightIs(0, 8), Due.BEYOND);
        Due.due("5: what -1", x.lightIs(0, -1), Due.BEYOND);
        Due.due("5: light 1", x.lightIs(1, 0), Due.BEYOND);
        Due.due("5: light -1", x.lightIs(-1, 0), Due.BEYOND);
    }

    private static void rhythm(String text, String row) {
        CoastLights x = new CoastLights();
        Due.light(x, text, 0, 0, 1);
        for (int i = 0; i < 3 * row.length(); i++) {
            int want = row.charAt(i % row.length()) == '#' ? 1 : 0;
            Due.due("6: " + text + " at " + i, x.at(0, i), want);
        }
        int late = Due.MAX % row.length();
        Due.due("6: " + text + " late", x.at(0, Due.MAX), row.charAt(late) == '#' ? 1 : 0);
    }

    private static void at() {
        rhythm("FW", "#");
        rhythm("IsoW6s", "###...");
        rhythm("FlW2s", "#.");
        rhythm("FlW5s", "#....");
        rhythm("Fl(3)W6s", "#.#.#.");
        rhythm("Fl(2)W7s", "#.#....");
        rhythm("OcW5s", ".####");
        rhythm("Oc(2)W4s", ".#.#");
        rhythm("Oc(2)W7s", ".#.####");
        rhythm("QW3s", "#..");
        rhythm("Q(2)W5s", "#.#..");
        rhythm("Q(2)W8s", "#.#.....");
        rhythm("Fl(15)W30s", "#.#.#.#.#.#.#.#.#.#.#.#.#.#.#.");
        CoastLights x = new CoastLights();
        Due.due("6: no LIGHT", x.at(0, 0), Due.BEYOND);
        Due.light(x, "FW", 0, 0, 1);
        Due.due("6: second -1", x.at(0, -1), Due.BEYOND);
        Due.due("6: second MIN", x.at(0, Due.MIN), Due.BEYOND);
        Due.due("6: light 1", x.at(1, 0), Due.BEYOND);
    }

    private static void sector() {
        CoastLights x = new CoastLights();
        Due.due("7: no LIGHT", x.sector(0, 0, 0, 0), Due.BEYOND);
        Due.light(x, "FW", 0, 0, 1);
        Due.due("7: from -1", x.sector(0, -1, 0, 0), Due.BEYOND);
        Due.due("7: from 16", x.sector(0, 16, 0, 0), Due.BEYOND);
        Due.due("7: to -1", x.sector(0, 0, -1, 0), Due.BEYOND);
        Due.due("7: to 16", x.sector(0, 0, 16, 0), Due.BEYOND);
        Due.due("7: colour -1", x.sector(0, 0, 0, -1), Due.BEYOND);
        Due.due("7: colour 4", x.sector(0, 0, 0, 4), Due.BEYOND);
        Due.due("7: none told", x.lightIs(0, 6), 0);
        for (int i = 0; i < 4; i++) {
            Due.due("7: sector " + i, x.sector(0, 15 - i, i, i), i + 1);
        }
        Due.due("7: a fifth", x.sector(0, 0, 0, 0), Due.FULL);
        Due.due("7: BEYOND ahead of FULL", x.sector(0, 0, 0, 4), Due.BEYOND);
        Due.light(x, "FW", 0, 0, 1);
        Due.due("7: another one has its own", x.sector(1, 0, 0, 0), 1);
    }

    private static void doubt() {
        CoastLights x = new CoastLights();
        Due.due("8: no LIGHT", x.doubt(0, 0), Due.BEYOND);
        for (int kind = 0; kind < 4; kind++) {
            Due.light(x, "FW", kind, 0, 1);
            Due.due("8: at first", x.lightIs(kind, 7), 0);
        }
        Due.due("8: a LIGHT", x.doubt(0, 1), Due.KIND);
        Due.due("8: a ROCK", x.doubt(1, 1), Due.KIND);
        Due.due("8: a TOWER", x.doubt(3, 1), Due.KIND);
        Due.due("8: BEYOND ahead of KIND", x.doubt(0, 4), Due.BEYOND);
        Due.due("8: 3", x.doubt(2, 3), 0);
        Due.due("8: 4", x.doubt(2, 4), Due.BEYOND);
        Due.due("8: -1", x.doubt(2, -1), Due.BEYOND);
        Due.due("8: 1", x.doubt(2, 1), 3);
        Due.due("8: 0", x.doubt(2, 0), 1);
        Due.due("8: light 4", x.doubt(4, 0), Due.BEYOND);
    }
}
