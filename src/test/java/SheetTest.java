/** Promises 31 to 33: sheets. */
public final class SheetTest {
    public static void main(String[] args) {
        sheet();
        put();
        copy();
        copyOver();
        Due.end();
    }

    private static void sheet() {
        CoastLights x = new CoastLights();
        Due.due("31: sheet -1", x.sheet(-1, 8, 1), Due.BEYOND);
        Due.due("31: sheet 4", x.sheet(4, 8, 1), Due.BEYOND);
        for (int bits : new int[] {-8, -1, 1, 7, 9, 24, 31, 33, 64, Due.MIN, Due.MAX}) {
            Due.due("31: bits " + bits, x.sheet(0, bits, 1), Due.BEYOND);
        }
        Due.due("31: n -1", x.sheet(0, 8, -1), Due.SIZE);
        Due.due("31: n 31", x.sheet(0, 8, 31), Due.BEYOND);
        Due.due("31: bits ahead of n", x.sheet(0, 7, -1), Due.BEYOND);
        Due.due("31: nothing was made", x.fits(0), Due.MISSING);
        Due.due("31: 30", x.sheet(3, 32, 30), 30);
        Due.due("31: 0", x.sheet(0, 16, 0), 0);
        Due.due("31: that is not MISSING", x.fits(0), 0);
        Due.due("31: of 0 bits", x.sheet(0, 0, 0), 0);
        Due.due("31: MISSING", x.fits(0), Due.MISSING);
        Due.due("31: of 0 bits with an n", x.sheet(3, 0, 5), 0);
        Due.due("31: MISSING too", x.put(3, 0, 0), Due.MISSING);
        Due.due("31: of 0 bits, n -1", x.sheet(3, 0, -1), Due.SIZE);
        Due.due("31: of 0 bits, n 31", x.sheet(3, 0, 31), Due.BEYOND);
        Due.light(x, "IsoW2s", 0, 0, 1);
        Due.sheet(x, 1, 8, 1, 1);
        Due.due("31: two of light", x.fits(1), 0);
        x.sheet(1, 8, 1);
        x.sheet(1, 8, 2);
        x.put(1, 0, 1);
        Due.due("31: all 0 anew", x.fits(1), 1);
        Due.due("31: no act that is undone", x.undo(), 0);
    }

    private static void put() {
        CoastLights x = new CoastLights();
        Due.due("32: sheet -1", x.put(-1, 0, 0), Due.BEYOND);
        Due.due("32: sheet 4", x.put(4, 0, 0), Due.BEYOND);
        Due.due("32: MISSING ahead of the place", x.put(0, -1, 0), Due.MISSING);
        x.sheet(0, 8, 2);
        Due.due("32: place -1", x.put(0, -1, 0), Due.BEYOND);
        Due.due("32: place 2", x.put(0, 2, 0), Due.BEYOND);
        Due.due("32: place 1", x.put(0, 1, 77), 0);
        Due.light(x, "IsoW2s", 0, 0, 1);
        int[] bits = {8, 16, 32};
        int[] turnsToNothing = {256, 65536, 0};
        for (int i = 0; i < 3; i++) {
            Due.sheet(x, 1, bits[i], turnsToNothing[i], turnsToNothing[i] + 1);
            Due.due("32: lowest bits of " + bits[i], x.fits(1), 1);
            Due.sheet(x, 1, bits[i], 1, 1 << (bits[i] - 1));
            Due.due("32: the highest bit of " + bits[i], x.fits(1), 0);
        }
        Due.sheet(x, 1, 16, 256, 0);
        Due.due("32: 256 of 16 bits", x.fits(1), 1);
        Due.sheet(x, 1, 32, 65536, 0);
        Due.due("32: 65536 of 32 bits", x.fits(1), 1);
    }

    private static void copy() {
        CoastLights x = new CoastLights();
        Due.due("33: sheet -1", x.copy(-1, 0, 0, 0, 0), Due.BEYOND);
        Due.due("33: sheet 4", x.copy(0, 0, 4, 0, 0), Due.BEYOND);
        Due.due("33: MISSING", x.copy(0, 0, 1, 0, 0), Due.MISSING);
        x.sheet(0, 8, 5);
        Due.due("33: the target is", x.copy(0, 0, 1, 0, 0), Due.MISSING);
        Due.due("33: the source is", x.copy(1, 0, 0, 0, 0), Due.MISSING);
        Due.due("33: MISSING ahead of places", x.copy(1, -1, 0, 0, 0), Due.MISSING);
        x.sheet(1, 16, 3);
        Due.due("33: bits", x.copy(0, 0, 1, 0, 0), Due.KIND);
        Due.due("33: KIND ahead of places", x.copy(0, -1, 1, 0, 0), Due.KIND);
        x.sheet(1, 8, 3);
        Due.due("33: from -1", x.copy(0, -1, 1, 0, 1), Due.BEYOND);
        Due.due("33: to -1", x.copy(0, 0, 1, -1, 1), Due.BEYOND);
        Due.due("33: n -1", x.copy(0, 1, 1, 1, -1), Due.BEYOND);
        Due.due("33: the target has 3", x.copy(0, 0, 1, 0, 4), Due.BEYOND);
        Due.due("33: the source has 3", x.copy(1, 1, 0, 0, 3), Due.BEYOND);
        Due.due("33: from MAX", x.copy(0, Due.MAX, 1, 0, 1), Due.BEYOND);
        Due.due("33: to MAX", x.copy(0, 0, 1, Due.MAX, 1), Due.BEYOND);
        Due.due("33: n MAX", x.copy(0, 1, 1, 1, Due.MAX), Due.BEYOND);
        Due.due("33: MIN", x.copy(0, Due.MIN, 1, Due.MIN, Due.MIN), Due.BEYOND);
        Due.due("33: none at the end", x.copy(0, 5, 1, 3, 0), 0);
        Due.due("33: none behind the end", x.copy(0, 6, 1, 0, 0), Due.BEYOND);
        Due.due("33: three", x.copy(0, 2, 1, 0, 3), 3);
    }

    private static void copyOver() {
        CoastLights x = new CoastLights();
        Due.light(x, "OcW4s", 0, 0, 1);
        Due.sheet(x, 0, 8, 0, 1, 1, 1, 0, 1);
        Due.due("33: fits", x.fits(0), 1);
        Due.sheet(x, 1, 8, 9, 9, 9, 9, 9, 9);
        Due.due("33: five to another", x.copy(0, 0, 1, 1, 5), 5);
        Due.due("33: they came", x.fits(1), 1);
        // 0 1 1 1 0 1 becomes 0 0 1 1 1 0, and then 0 1 1 1 0 0.
        Due.due("33: one on, within", x.copy(0, 0, 0, 1, 5), 5);
        Due.due("33: as they were", x.fits(0), 0);
        x.put(0, 0, 1);
        Due.due("33: 1 0 1 1 1 0", x.fits(0), 1);
        Due.due("33: one back, within", x.copy(0, 1, 0, 0, 5), 5);
        x.put(0, 5, 1);
        Due.due("33: 0 1 1 1 0 1", x.fits(0), 1);
    }
}
