import java.util.Random;

/** All promises: runs of calls, made by a fixed seed, on the program and on SlowCoast. */
public final class RunsTest {
    private static final int RUNS = 150;
    private static final int CALLS = 512;
    private static final String[] TEXTS = {
        "FW", "FR", "IsoW6s", "IsoG2s", "FlW2s", "FlR5s", "Fl(2)W6s", "Fl(3)W10s", "Fl(2)G29s", "Fl(15)W30s",
        "OcW4s", "Oc(2)R7s", "Oc(15)W30s", "QW3s", "Q(3)W9s", "Q(14)G29s", "Q(9)W15s", "OcW30s", "FlW30s", "Fl(3)W9s",
    };

    private final Random random;
    private final CoastLights x = new CoastLights();
    private final SlowCoast y = new SlowCoast();
    /** Of 100 arguments so many are taken from anywhere. */
    private final int wild;
    /** How often LIGHTS are ROCKS, of 4. */
    private final int rocky;
    private int hour;

    private RunsTest(long seed) {
        random = new Random(seed);
        wild = new int[] {0, 1, 1, 3, 10}[random.nextInt(5)];
        rocky = random.nextInt(5);
    }

    public static void main(String[] args) {
        int runs = args.length > 0 ? Integer.parseInt(args[0]) : RUNS;
        for (int run = 0; run < runs && Due.wrong() < Due.ENOUGH_WRONG; run++) {
            RunsTest test = new RunsTest(run);
            for (int call = 0; call < CALLS && Due.wrong() < Due.ENOUGH_WRONG; call++) {
                test.step("run " + run + ", call " + call + ": ");
            }
        }
        Due.end();
    }

    /** A number from 0 to below a bound, or now and then one just beyond, or any. */
    private int some(int bound) {
        if (random.nextInt(100) >= wild) {
            return random.nextInt(bound);
        }
        int[] odd = {-1, bound, Due.MIN, Due.MAX, random.nextInt(), -2, bound + 1};
        return odd[random.nextInt(odd.length)];
    }

    private int someLight() {
        return some(Math.max(1, y.all(0)));
    }

    private void step(String where) {
        int kind = random.nextInt(100);
        if (kind < 30 || y.all(0) < 3) {
            list(where);
        } else if (kind < 50) {
            seeing(where);
        } else if (kind < 65) {
            fixes(where);
        } else if (kind < 72) {
            outages(where);
        } else if (kind < 84) {
            keepers(where);
        } else {
            sheets(where);
        }
    }

    private String someText() {
        int kind = random.nextInt(10);
        String text = TEXTS[random.nextInt(TEXTS.length)];
        if (kind < 6) {
            return text;
        }
        if (kind < 8) {
            String[] rhythms = {"Fl", "Oc", "Q", "Iso", "Fl(" + random.nextInt(20) + ")", "Q(" + random.nextInt(17) + ")",
                "Oc(" + random.nextInt(17) + ")"};
            return rhythms[random.nextInt(7)] + "WRG".charAt(random.nextInt(3)) + random.nextInt(33) + "s";
        }
        int at = random.nextInt(text.length() + 1);
        String signs = "FlOcQIso()WRGs0123456789 \u00ff";
        char sign = signs.charAt(random.nextInt(signs.length()));
        return kind == 8 ? text.substring(0, at) : text.substring(0, at) + sign + text.substring(Math.min(text.length(), at + 1));
    }

    private void feedText(String where, String text) {
        for (int at = 0; at < text.length(); at += 8) {
            int n = Math.min(8, text.length() - at);
            long bytes = random.nextInt(4) == 0 ? random.nextLong() : 0;
            for (int i = 0; i < n; i++) {
                bytes &= ~(255L << (8 * i));
                bytes |= (long) text.charAt(at + i) << (8 * i);
            }
            Due.due(where + "feed(" + n + ", " + bytes + ")", x.feed(n, bytes), y.feed(n, bytes));
        }
    }

    private void list(String where) {
        switch (random.nextInt(12)) {
            case 0: case 1: case 2: {
                String text = someText();
                if (y.all(0) < 10 || random.nextInt(4) == 0) {
                    feedText(where, text);
                }
                int kind = random.nextInt(4) < rocky ? 1 + 2 * random.nextInt(2) : some(4);
                int cell = some(256);
                int range = 1 + some(15);
                Due.due(where + "light(" + kind + ", " + cell + ", " + range + ") of " + text,
                    x.light(kind, cell, range), y.light(kind, cell, range));
                break;
            }
            case 3: {
                int n = some(9);
                long bytes = random.nextLong();
                if (random.nextInt(4) == 0) {
                    Due.due(where + "feed(" + n + ", " + bytes + ")", x.feed(n, bytes), y.feed(n, bytes));
                }
                break;
            }
            case 4: {
                int light = someLight();
                int kind = some(4);
                Due.due(where + "as(" + light + ", " + kind + ")", x.as(light, kind), y.as(light, kind));
                break;
            }
            case 5: case 6: {
                int light = someLight();
                int what = some(8);
                Due.due(where + "lightIs(" + light + ", " + what + ")", x.lightIs(light, what), y.lightIs(light, what));
                break;
            }
            case 7: {
                int light = someLight();
                int second = some(100);
                Due.due(where + "at(" + light + ", " + second + ")", x.at(light, second), y.at(light, second));
                break;
            }
            case 8: case 9: {
                int light = someLight();
                int from = some(16);
                int to = some(16);
                int colour = some(4);
                Due.due(where + "sector(" + light + ", " + from + ", " + to + ", " + colour + ")",
                    x.sector(light, from, to, colour), y.sector(light, from, to, colour));
                break;
            }
            default: {
                int light = someLight();
                int v = some(4);
                Due.due(where + "doubt(" + light + ", " + v + ")", x.doubt(light, v), y.doubt(light, v));
                break;
            }
        }
    }

    private void seeing(String where) {
        switch (random.nextInt(9)) {
            case 0: {
                int from = some(256);
                int to = some(256);
                Due.due(where + "direction(" + from + ", " + to + ")", x.direction(from, to), y.direction(from, to));
                break;
            }
            case 1: case 2: {
                int light = someLight();
                int cell = some(256);
                Due.due(where + "colour(" + light + ", " + cell + ")", x.colour(light, cell), y.colour(light, cell));
                break;
            }
            case 3: {
                int cell = some(256);
                Due.due(where + "seen(" + cell + ")", x.seen(cell), y.seen(cell));
                break;
            }
            case 4: {
                int v = some(random.nextInt(3) == 0 ? 16 : 4);
                Due.due(where + "haze(" + v + ")", x.haze(v), y.haze(v));
                break;
            }
            case 5: {
                int v = some(20);
                Due.due(where + "day(" + v + ")", x.day(v), y.day(v));
                break;
            }
            case 6: {
                int a = someLight();
                int b = someLight();
                Due.due(where + "apart(" + a + ", " + b + ")", x.apart(a, b), y.apart(a, b));
                break;
            }
            case 7: {
                int set = some(1 << y.all(0)) & (random.nextInt(2) == 0 ? -1 : random.nextInt(1024));
                Due.due(where + "allApart(" + set + ")", x.allApart(set), y.allApart(set));
                break;
            }
            default: {
                int s = some(4);
                Due.due(where + "fits(" + s + ")", x.fits(s), y.fits(s));
                break;
            }
        }
    }

    private void fixes(String where) {
        switch (random.nextInt(10)) {
            case 0: case 1: {
                int light = someLight();
                int from = some(16);
                int to = random.nextInt(3) == 0 ? some(16) : (from & 15) + random.nextInt(9) & 15;
                Due.due(where + "bearing(" + light + ", " + from + ", " + to + ")", x.bearing(light, from, to), y.bearing(light, from, to));
                break;
            }
            case 2: {
                if (random.nextInt(3) == 0) {
                    Due.due(where + "clear()", x.clear(), y.clear());
                }
                break;
            }
            case 3: case 4: {
                boolean least = random.nextBoolean();
                Due.due(where + "fix(" + least + ")", x.fix(least), y.fix(least));
                break;
            }
            case 5: {
                int cell = some(256);
                Due.due(where + "may(" + cell + ")", x.may(cell), y.may(cell));
                break;
            }
            case 6: case 7: {
                int cell = random.nextBoolean() ? some(256) : 100 + random.nextInt(14);
                boolean is = random.nextInt(8) > 2;
                Due.due(where + "fairway(" + cell + ", " + is + ")", x.fairway(cell, is), y.fairway(cell, is));
                break;
            }
            default:
                Due.due(where + "kept()", x.kept(), y.kept());
                break;
        }
    }

    private void outages(String where) {
        int light = someLight();
        if (random.nextInt(3) == 0) {
            hour += random.nextInt(60) - 5;
            int told = random.nextInt(10) == 0 ? some(1000) : hour;
            int from = random.nextInt(20);
            int to = from + random.nextInt(30) - 3;
            int days = random.nextInt(10) == 0 ? some(10000) : 100 * from + Math.max(0, to);
            boolean out = random.nextInt(3) > 0;
            Due.due(where + "word(" + light + ", " + days + ", " + told + ", " + out + ")",
                x.word(light, days, told, out), y.word(light, days, told, out));
            return;
        }
        int day = some(random.nextInt(2) == 0 ? 30 : 100);
        int told = some(1000);
        Due.due(where + "out(" + light + ", " + day + ", " + told + ")", x.out(light, day, told), y.out(light, day, told));
    }

    private void keepers(String where) {
        int light = someLight();
        switch (random.nextInt(9)) {
            case 0: case 1: {
                int since = some(random.nextInt(2) == 0 ? 8 : 20);
                Due.due(where + "keeper(" + light + ", " + since + ")", x.keeper(light, since), y.keeper(light, since));
                break;
            }
            case 2: {
                int v = some(10);
                Due.due(where + "limit(" + light + ", " + v + ")", x.limit(light, v), y.limit(light, v));
                break;
            }
            case 3: {
                int s = some(4);
                Due.due(where + "seas(" + s + ")", x.seas(s), y.seas(s));
                break;
            }
            case 4: case 5:
                Due.due(where + "overdue()", x.overdue(), y.overdue());
                break;
            case 6: case 7: {
                int day = some(20);
                Due.due(where + "landing(" + day + ")", x.landing(day), y.landing(day));
                break;
            }
            default:
                prove(where);
                break;
        }
    }

    /** A sheet by what landing says, as it is or with a number or two changed. */
    private void prove(String where) {
        int s = random.nextInt(4);
        int day = y.today();
        if (random.nextInt(4) > 0) {
            int bits = 8 << random.nextInt(3);
            Due.due(where + "sheet", x.sheet(s, bits, 20 - day), y.sheet(s, bits, 20 - day));
            for (int d = day; d < 20; d++) {
                int rock = x.landing(d);
                Due.due(where + "landing(" + d + ")", rock, y.landing(d));
                int v = rock < 0 ? -1 : rock;
                Due.due(where + "put", x.put(s, d - day, v), y.put(s, d - day, v));
            }
            Due.due(where + "proves its own", x.proves(s), -1);
            Due.due(where + "all(0)", x.all(0), y.all(0));
            for (int i = random.nextInt(3); i > 0; i--) {
                int at = random.nextInt(20 - day);
                int v = random.nextInt(12) - 2;
                Due.due(where + "put", x.put(s, at, v), y.put(s, at, v));
            }
        }
        int which = random.nextInt(6) == 0 ? some(4) : s;
        Due.due(where + "proves(" + which + ") on day " + day, x.proves(which), y.proves(which));
    }

    private void sheets(String where) {
        int s = some(4);
        switch (random.nextInt(10)) {
            case 0: {
                int bits = new int[] {0, 8, 8, 8, 16, 16, 32, 7, -1, 64}[random.nextInt(random.nextInt(5) == 0 ? 10 : 7)];
                int n = some(random.nextInt(2) == 0 ? 7 : 31);
                Due.due(where + "sheet(" + s + ", " + bits + ", " + n + ")", x.sheet(s, bits, n), y.sheet(s, bits, n));
                break;
            }
            case 1: case 2: case 3: case 4: {
                int i = some(random.nextInt(2) == 0 ? 6 : 30);
                int v = random.nextInt(3) == 0 ? some(300) : random.nextInt(11);
                Due.due(where + "put(" + s + ", " + i + ", " + v + ")", x.put(s, i, v), y.put(s, i, v));
                break;
            }
            case 5: {
                int from = some(6);
                int t = some(4);
                int to = some(6);
                int n = some(8);
                Due.due(where + "copy(" + s + ", " + from + ", " + t + ", " + to + ", " + n + ")",
                    x.copy(s, from, t, to, n), y.copy(s, from, t, to, n));
                break;
            }
            case 6: case 7: {
                int times = random.nextInt(10) == 0 ? 18 : 1;
                for (int i = 0; i < times; i++) {
                    Due.due(where + "undo()", x.undo(), y.undo());
                }
                break;
            }
            default: {
                int what = some(7);
                Due.due(where + "all(" + what + ")", x.all(what), y.all(what));
                break;
            }
        }
    }
}
