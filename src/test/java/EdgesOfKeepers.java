import java.util.Arrays;

/** Boundaries that promises 25 to 30 name: keeper, limit, seas, overdue, landing, proves. */
final class EdgesOfKeepers {
    private EdgesOfKeepers() {
    }

    // ---- 25

    /** "since a day (0 to 19): .. BEYOND." */
    static void promise25Beyond() {
        Edge x = Edge.coast("keeper").bounds("keeper(1, #)", 0, 19).bounds("keeper(3, #)", 0, 19);
        x.refused("keeper(5, 0)", Due.BEYOND).refused("keeper(-1, 0)", Due.BEYOND).refused("keeper(MIN, 0)", Due.BEYOND);
        x.then("keeper(1, 19)", 2).then("keeper(1, 0)", 19).then("keeper(1, 18)", 0).then("keeper(1, 18)", 18).then("keeper(3, 1)", 4);
        Edge.sea("no LIGHT").refused("keeper(0, 0)", Due.BEYOND);
    }

    /** "KIND: it is no ROCK". */
    static void promise25Kind() {
        Edge x = Edge.coast("keeper");
        x.refused("keeper(0, 0)", Due.KIND).refused("keeper(2, 19)", Due.KIND).tries("keeper(1, 0)", 2).tries("keeper(3, 0)", 4);
        x.tries("keeper(4, 0)", 0);
    }

    /** BEYOND is asked ahead of KIND. */
    static void promise25FindingsInOrder() {
        Edge.coast("keeper").refused("keeper(0, 20)", Due.BEYOND).refused("keeper(0, -1)", Due.BEYOND).refused("keeper(2, 20)", Due.BEYOND);
    }

    // ---- 26

    /** "LIMIT of a ROCK becomes v: what it was. BEYOND." */
    static void promise26Beyond() {
        Edge x = Edge.coast("limit").bounds("limit(1, #)", 0, 9).bounds("limit(3, #)", 0, 9);
        x.refused("limit(5, 0)", Due.BEYOND).refused("limit(-1, 0)", Due.BEYOND).refused("limit(MAX, 0)", Due.BEYOND);
        x.then("limit(1, 9)", 6).then("limit(1, 0)", 9).then("limit(1, 8)", 0).then("limit(1, 8)", 8).then("limit(3, 1)", 2);
        x.then("limit(4, 5)", 4);
        Edge.sea("no LIGHT").refused("limit(0, 0)", Due.BEYOND);
    }

    /** "KIND." */
    static void promise26Kind() {
        Edge.coast("limit").refused("limit(0, 0)", Due.KIND).refused("limit(2, 9)", Due.KIND).tries("limit(1, 0)", 6)
            .tries("limit(3, 0)", 2).tries("limit(4, 0)", 4);
    }

    /** BEYOND is asked ahead of KIND. */
    static void promise26FindingsInOrder() {
        Edge.coast("limit").refused("limit(0, 10)", Due.BEYOND).refused("limit(0, -1)", Due.BEYOND).refused("limit(2, 10)", Due.BEYOND);
    }

    // ---- 27

    /** "BEYOND: no such sheet. MISSING." */
    static void promise27BeyondAndMissing() {
        Edge x = Edge.coast("seas").refused("seas(-1)", Due.BEYOND).tries("seas(0)", 20).tries("seas(1)", 3).tries("seas(2)", 1);
        x.refused("seas(3)", Due.MISSING).refused("seas(4)", Due.BEYOND).refused("seas(MIN)", Due.BEYOND).refused("seas(MAX)", Due.BEYOND);
        x.does("sheet(3, 16, 0)").tries("seas(3)", 0);
        Edge.sea("all MISSING").refused("seas(0)", Due.MISSING).refused("seas(3)", Due.MISSING).refused("seas(4)", Due.BEYOND);
    }

    /** The height of a day, found by the least LIMIT with which a ROCK is LANDED then. */
    private static int heightOf(CoastLights x, int rock, int day) {
        x.day(day);
        x.sheet(3, 8, 20 - day);
        for (int i = 0; i < 20 - day; i++) {
            x.put(3, i, i == 0 ? rock : -1);
        }
        for (int limit = 0; limit <= 9; limit++) {
            x.limit(rock, limit);
            if (x.proves(3) != 0) {
                return limit;
            }
        }
        return 10;
    }

    /** The heights of some days, each asked of an object of its own. */
    private static void heights(String name, int[] before, int bits, int[] numbers, int told) {
        for (int day : new int[] {0, 1, 2, 3, 17, 18, 19}) {
            CoastLights x = new CoastLights();
            Due.light(x, "FW", 1, 0, 1);
            Due.sheet(x, 0, 8, before);
            x.seas(0);
            Due.sheet(x, 1, bits, numbers);
            Due.due("27: " + name + ": seas", x.seas(1), told);
            int want = day < before.length ? before[day] : 0;
            if (day < numbers.length && numbers[day] >= 0 && numbers[day] <= 9) {
                want = numbers[day];
            }
            Due.due("27: " + name + ": height of day " + day, heightOf(x, 0, day), want);
        }
    }

    private static int[] row(int many, int of) {
        int[] row = new int[many];
        Arrays.fill(row, of);
        return row;
    }

    /** "from day 0 on, as far as it goes (..; those behind day 19 are not looked at)": 0, 1, 19, 20, 21, 30 numbers. */
    static void promise27AsFarAsItGoes() {
        for (int many : new int[] {0, 1, 2, 19, 20, 21, 30}) {
            heights(many + " numbers", row(20, 5), 8, row(many, 7), Math.min(many, 20));
            heights(many + " numbers, calm", row(20, 9), 16, row(many, 0), Math.min(many, 20));
        }
        int[] late = row(30, 100);
        for (int i = 20; i < 30; i++) {
            late[i] = 3;
        }
        heights("numbers behind day 19 alone", row(20, 5), 8, late, 0);
        late[19] = 3;
        heights("day 19 and behind it", row(20, 5), 8, late, 1);
    }

    /** "(numbers that are not 0 to 9 leave theirs; ..)": 0 and 9 and a step to each side, in all bits. */
    static void promise27NumbersThatAreNot0To9() {
        for (int bits = 8; bits <= 32; bits *= 2) {
            heights("-1, 0, 1", row(20, 5), bits, new int[] {-1, 0, 1, 5}, 3);
            heights("8, 9, 10", row(20, 5), bits, new int[] {8, 9, 10, 5}, 3);
            heights("far off", row(20, 5), bits, new int[] {-128, 127, -10, 100}, 0);
        }
        heights("far off in 32 bits", row(20, 4), 32, new int[] {Due.MIN, Due.MAX, 256, 65536}, 0);
        heights("at first", new int[0], 32, new int[] {10, -1}, 0);
        Edge.sea("lowest bits").sheet(0, 8, 256, 265, 266, 255).tries("seas(0)", 2).sheet(0, 16, 65536, 65545, 65546, 65535).tries("seas(0)", 2);
    }

    /** seas is undone, also where it left some. */
    static void promise27IsUndone() {
        Edge x = Edge.sea("seas").lights(1, 1).sheet(0, 8, row(20, 6)).does("seas(0)");
        x.sheet(0, 8, row(20, 2)).undone("seas(0)").sheet(0, 8, row(19, 2)).undone("seas(0)").sheet(0, 8, 10, 9, 0, -1).undone("seas(0)");
        x.does("sheet(0, 8, 0)").undone("seas(0)");
    }

    // ---- 28

    /** "THE LANDINGS: days OVERDUE together": no ROCKS, one, ten. */
    static void promise28NoneOneTen() {
        Edge.sea("none").tells("overdue()", 0).lights(1, 0).lights(1, 2).tells("overdue()", 0).does("day(19)").tells("overdue()", 0);
        Edge.sea("one").lights(1, 1).tells("overdue()", 0).does("day(10)").tells("overdue()", 0).does("day(11)").tells("overdue()", 1)
            .does("day(19)").tells("overdue()", 9);
        Edge.sea("ten").lights(10, 1).tells("overdue()", 0).does("day(19)").tells("overdue()", 99).does("day(18)").tells("overdue()", 97)
            .does("day(10)").tells("overdue()", 45).sheet(0, 8, row(20, 5)).does("seas(0)").tells("overdue()", 100);
    }

    /** "a keeper that is LANDED counts the days OVERDUE then, others those on day 20". */
    static void promise28LandedOrOnDay20() {
        int[] rough = row(20, 9);
        for (int day : new int[] {9, 10, 11, 18, 19}) {
            int[] seas = rough.clone();
            seas[day] = 4;
            Edge.sea("calm on " + day).lights(2, 1).does("keeper(1, 5)").sheet(0, 8, seas).does("seas(0)")
                .tells("overdue()", Math.min(Math.max(0, day - 10) + 5, 10 + Math.max(0, day - 15)));
        }
    }

    // ---- 29

    /** "BEYOND." */
    static void promise29Beyond() {
        Edge x = Edge.sea("landing").lights(10, 1).does("day(0)");
        x.refused("landing(-1)", Due.BEYOND).refused("landing(20)", Due.BEYOND).refused("landing(MIN)", Due.BEYOND).refused("landing(MAX)", Due.BEYOND);
        x.refused("landing(0)", Due.NONE).tells("landing(1)", 0).tells("landing(10)", 9).refused("landing(19)", Due.NONE);
        Edge.sea("no ROCK").refused("landing(0)", Due.NONE).refused("landing(19)", Due.NONE).refused("landing(20)", Due.BEYOND);
        Edge.sea("the last day").lights(1, 1).does("day(19)").tells("landing(19)", 0);
    }

    /** "NONE: none, or it is ahead of THE DAY"; BEYOND is asked ahead of it. */
    static void promise29NoneAheadOfTheDay() {
        Edge x = Edge.sea("ahead").lights(3, 1).does("day(15)");
        x.refused("landing(14)", Due.NONE).tells("landing(15)", 0).tells("landing(16)", 1).tells("landing(17)", 2).refused("landing(18)", Due.NONE);
        x.refused("landing(0)", Due.NONE).refused("landing(8)", Due.NONE).refused("landing(-1)", Due.BEYOND);
        x.does("day(8)").refused("landing(7)", Due.NONE).tells("landing(8)", 0).tells("landing(9)", 1).tells("landing(10)", 2);
        x.refused("landing(11)", Due.NONE).refused("landing(15)", Due.NONE);
    }

    // ---- 30

    /** "BEYOND: no such sheet. MISSING. SIZE: it has not just so many numbers as days". */
    static void promise30BeyondMissingSize() {
        Edge x = Edge.coast("proves");
        x.refused("proves(-1)", Due.BEYOND).refused("proves(4)", Due.BEYOND).refused("proves(MIN)", Due.BEYOND).refused("proves(MAX)", Due.BEYOND);
        x.refused("proves(3)", Due.MISSING).refused("proves(0)", Due.SIZE).refused("proves(1)", Due.SIZE);
        for (int day : new int[] {0, 1, 18, 19}) {
            Edge y = Edge.sea("from day " + day).lights(1, 1).does("keeper(0, 10)", "day(" + day + ")");
            for (int more = -1; more <= 1; more++) {
                y.sheet(0, 8, row(20 - day + more, -1));
                if (more == 0) {
                    y.tells("proves(0)", -1);
                } else {
                    y.refused("proves(0)", Due.SIZE);
                }
            }
            y.does("sheet(0, 8, 30)").refused("proves(0)", Due.SIZE).does("sheet(0, 0, 0)").refused("proves(0)", Due.MISSING);
            y.does("sheet(0, 8, 0)").refused("proves(0)", Due.SIZE);
        }
    }

    private static Edge proof(Edge x, int... numbers) {
        return x.sheet(0, 32, numbers);
    }

    /** "the place of the first that may not be (no ROCK, ..)": the numbers of LIGHTS, and a step beyond. */
    static void promise30NoRock() {
        Edge x = Edge.sea("LIGHT, ROCK, BUOY, TOWER").lights(1, 0).lights(1, 1).lights(1, 2).lights(1, 3).does("day(17)");
        proof(x, 1, 3, -1).tells("proves(0)", -1);
        proof(x, 0, 3, 1).tells("proves(0)", 0);
        proof(x, 1, 2, 3).tells("proves(0)", 1);
        proof(x, 1, 3, 4).tells("proves(0)", 2);
        proof(x, 1, 3, -2).tells("proves(0)", 2);
        for (int v : new int[] {Due.MIN, Due.MAX, 9, 10, 31, 32, 33, 65, 256, -32, -31}) {
            proof(x, v, 1, 3).tries("proves(0)", 0);
            proof(x, 1, 3, v).tries("proves(0)", 2);
        }
        Edge ten = Edge.sea("ten ROCKS").lights(10, 1).does("day(18)");
        proof(ten, 8, 9).tells("proves(0)", -1);
        proof(ten, 9, 10).tells("proves(0)", 1);
    }

    /** "SEA above its LIMIT": at it, a step below, a step above; at the first place and at the last. */
    static void promise30SeaAboveItsLimit() {
        int[] seas = row(20, 4);
        seas[17] = 5;
        seas[18] = 3;
        Edge x = Edge.sea("SEA").lights(2, 1).sheet(1, 8, seas).does("seas(1)", "day(17)");
        proof(x, -1, 0, 1).tells("proves(0)", -1);
        proof(x, 0, 1, -1).tells("proves(0)", 0);
        proof(x, -1, 1, 0).tells("proves(0)", -1);
        x.does("limit(0, 3)");
        proof(x, -1, 1, 0).tells("proves(0)", 2);
        proof(x, -1, 0, 1).tells("proves(0)", -1);
        x.does("limit(0, 2)");
        proof(x, -1, 0, 1).tells("proves(0)", 1);
        x.does("limit(0, 5)");
        proof(x, 0, 1, -1).tells("proves(0)", -1);
    }

    /** "a second time". */
    static void promise30ASecondTime() {
        Edge x = Edge.sea("twice").lights(10, 1).does("day(17)");
        proof(x, 0, 0, 1).tells("proves(0)", 1);
        proof(x, 9, 0, 9).tells("proves(0)", 2);
        proof(x, 0, 1, 0).tells("proves(0)", 2);
        proof(x, 0, 1, 9).tells("proves(0)", -1);
        proof(x, -1, -1, -1).tells("proves(0)", 3);
    }

    /** "or how many it has, if more are OVERDUE by it than must be": as many as must be, one day more. */
    static void promise30MoreThanMustBe() {
        Edge one = Edge.sea("one ROCK").lights(1, 1).does("day(9)");
        proof(one, -1, 0, -1, -1, -1, -1, -1, -1, -1, -1, -1).tells("proves(0)", -1);
        proof(one, 0, -1, -1, -1, -1, -1, -1, -1, -1, -1, -1).tells("proves(0)", -1);
        proof(one, -1, -1, 0, -1, -1, -1, -1, -1, -1, -1, -1).tells("proves(0)", 11);
        proof(one, row(11, -1)).tells("proves(0)", 11);
        Edge last = Edge.sea("the last day").lights(1, 1).does("day(19)");
        proof(last, 0).tells("proves(0)", -1);
        proof(last, -1).tells("proves(0)", 1);
        last.does("keeper(0, 9)");
        proof(last, -1).tells("proves(0)", 1);
        last.does("keeper(0, 10)");
        proof(last, -1).tells("proves(0)", -1);
        Edge.sea("no ROCKS").sheet(0, 8, row(20, -1)).tells("proves(0)", -1).does("put(0, 19, 0)").tells("proves(0)", 19);
    }

    /** "(-1: none)": in each of the bits; 255 is it in 8 bits alone, 65535 in 16. */
    static void promise30NoneInEachOfTheBits() {
        Edge x = Edge.sea("-1").lights(1, 1).does("keeper(0, 10)", "day(19)");
        x.sheet(0, 8, -1).tells("proves(0)", -1).sheet(0, 16, -1).tells("proves(0)", -1).sheet(0, 32, -1).tells("proves(0)", -1);
        x.sheet(0, 8, 255).tells("proves(0)", -1).sheet(0, 16, 255).tells("proves(0)", 0).sheet(0, 32, 255).tells("proves(0)", 0);
        x.sheet(0, 16, 65535).tells("proves(0)", -1).sheet(0, 32, 65535).tells("proves(0)", 0);
        x.sheet(0, 8, 254).tells("proves(0)", 0).sheet(0, 8, 256).tells("proves(0)", -1);
    }
}
