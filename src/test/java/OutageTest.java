/** Promises 23 and 24: words, and what is OUT AS KNOWN. */
public final class OutageTest {
    public static void main(String[] args) {
        word();
        full();
        out();
        Due.end();
    }

    private static void word() {
        CoastLights x = new CoastLights();
        Due.due("23: no LIGHT", x.word(0, 0, 0, true), Due.BEYOND);
        Due.light(x, "FW", 0, 0, 1);
        Due.light(x, "FW", 0, 0, 1);
        Due.due("23: days -1", x.word(0, -1, 0, true), Due.BEYOND);
        Due.due("23: days 10000", x.word(0, 10000, 0, true), Due.BEYOND);
        Due.due("23: hour -1", x.word(0, 0, -1, true), Due.BEYOND);
        Due.due("23: hour 1000", x.word(0, 0, 1000, true), Due.BEYOND);
        Due.due("23: from above to", x.word(0, 504, 0, true), Due.SIZE);
        Due.due("23: BEYOND ahead of SIZE", x.word(2, 504, 0, true), Due.BEYOND);
        Due.due("23: one day", x.word(0, 505, 10, true), 1);
        Due.due("23: an HOUR ahead", x.word(1, 505, 9, true), Due.SIZE);
        Due.due("23: the same HOUR", x.word(1, 505, 10, true), 2);
        Due.due("23: the last HOUR", x.word(1, 9999, 999, false), 3);
        Due.due("23: behind it", x.word(1, 0, 998, false), Due.SIZE);
        x.undo();
        Due.due("23: HOURS rise from the word ahead", x.word(1, 99, 10, false), 3);
        Due.due("23: all(4)", x.all(4), 3);
    }

    private static void full() {
        CoastLights x = new CoastLights();
        Due.light(x, "FW", 0, 0, 1);
        for (int i = 1; i <= 20; i++) {
            Due.due("23: word " + i, x.word(0, i, i, i % 2 == 0), i);
        }
        Due.due("23: one more", x.word(0, 0, 20, true), Due.FULL);
        Due.due("23: SIZE ahead of FULL", x.word(0, 0, 19, true), Due.SIZE);
        Due.due("23: BEYOND ahead of FULL", x.word(1, 0, 20, true), Due.BEYOND);
        Due.due("24: the latest that holds day 19", x.out(0, 19, 999), 1);
        Due.due("24: as known at 19", x.out(0, 19, 19), 0);
        Due.due("24: as known at 18", x.out(0, 19, 18), 0);
        Due.due("24: day 18 at 18", x.out(0, 18, 18), 1);
    }

    private static void out() {
        CoastLights x = new CoastLights();
        Due.due("24: no LIGHT", x.out(0, 0, 0), Due.BEYOND);
        Due.light(x, "FW", 0, 0, 1);
        Due.light(x, "FW", 0, 0, 1);
        Due.due("24: it burns at first", x.out(0, 0, 999), 0);
        x.word(0, 1020, 5, true);
        x.word(0, 1515, 7, false);
        x.word(0, 1516, 7, true);
        x.word(1, 1010, 8, true);
        int[][] want = {
            {9, 999, 0}, {10, 4, 0}, {10, 5, 1}, {20, 5, 1}, {21, 5, 0},
            {15, 5, 1}, {15, 6, 1}, {15, 7, 1}, {16, 7, 1}, {14, 7, 1}, {99, 999, 0},
        };
        for (int[] row : want) {
            Due.due("24: out(0, " + row[0] + ", " + row[1] + ")", x.out(0, row[0], row[1]), row[2]);
        }
        x.undo();
        x.undo();
        Due.due("24: burns by the word at 7", x.out(0, 15, 7), 0);
        Due.due("24: not known at 6", x.out(0, 15, 6), 1);
        Due.due("24: another LIGHT", x.out(1, 15, 999), 0);
        Due.due("24: day -1", x.out(0, -1, 0), Due.BEYOND);
        Due.due("24: day 100", x.out(0, 100, 0), Due.BEYOND);
        Due.due("24: hour -1", x.out(0, 0, -1), Due.BEYOND);
        Due.due("24: hour 1000", x.out(0, 0, 1000), Due.BEYOND);
        Due.due("24: light 2", x.out(2, 0, 0), Due.BEYOND);
    }
}
