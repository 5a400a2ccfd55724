/**
 * The lights of a coast: rhythms read from a light list's texts, what is seen from the sea, fixes by
 * bearings, the least set of lights for a fairway, outages as known, and the landings of keepers.
 *
 * Every row is made once, in the constructor, and used again: a call makes no objects (but for the
 * rows of the landings, which grow with the rocks that there are).
 */
public final class CoastLights {
    private static final int BEYOND = -100001;
    private static final int MISSING = -100002;
    private static final int SIZE = -100003;
    private static final int KIND = -100004;
    private static final int FULL = -100005;
    private static final int NONE = -100006;

    private static final int CELLS = 256;
    private static final int MOST_LIGHTS = 10;
    private static final int MOST_BEARINGS = 8;
    private static final int MOST_FAIRWAY = 12;
    private static final int DAYS = 20;
    private static final int LAST_HOUR = 999;
    private static final int SHEETS = 4;

    private static final int ROCK = 1;
    private static final int BUOY = 2;
    private static final int TOWER = 3;
    private static final int DARK = 3;

    /** The kind that each kind stands under (-1: none). */
    private static final int[] KIND_OVER = {-1, 0, 0, 1};

    /** DIRECTIONS 0 to 7 as steps; 8 to 15 are their opposites. */
    private static final int[] STEP_X = {0, 1, 1, 2, 1, 2, 1, 1};
    private static final int[] STEP_Y = {1, 2, 1, 1, 0, -1, -1, -2};

    private static final int DID_LIGHT = 0;
    private static final int DID_SECTOR = 1;
    private static final int DID_DOUBT = 2;
    private static final int DID_HAZE = 3;
    private static final int DID_DAY = 4;
    private static final int DID_BEARING = 5;
    private static final int DID_CLEAR = 6;
    private static final int DID_FAIRWAY = 7;
    private static final int DID_WORD = 8;
    private static final int DID_KEEPER = 9;
    private static final int DID_LIMIT = 10;
    private static final int DID_SEAS = 11;

    private final Text tape = new Text();
    private final Light[] lights = new Light[MOST_LIGHTS];
    private int lightCount;
    private int hazeNow;
    private int dayNow;
    /** Each: the LIGHT times 65536, and its DIRECTIONS as bits. */
    private final int[] bearings = new int[MOST_BEARINGS];
    private int bearingCount;
    private final int[] fairwayCells = new int[MOST_FAIRWAY];
    private int fairwayCount;
    private final int[] fairwaySights = new int[MOST_FAIRWAY];
    private final Words words = new Words();
    private final int[] heights = new int[DAYS];
    private final Landings landings = new Landings();
    private boolean landingsKnown;
    private final boolean[] inFix = new boolean[CELLS];
    private boolean fixKnown;
    private final Sheet[] sheets = new Sheet[SHEETS];
    private final Past past = new Past();
    private int findings;

    public CoastLights() {
        for (int i = 0; i < MOST_LIGHTS; i++) {
            lights[i] = new Light();
        }
        for (int i = 0; i < SHEETS; i++) {
            sheets[i] = new Sheet();
        }
    }

    // ---- the list

    public int feed(int n, long bytes) {
        if (n < 1 || n > 8) {
            return refuse(BEYOND);
        }
        if (tape.length + n > Text.MOST) {
            return refuse(FULL);
        }
        tape.append(n, bytes);
        return tape.length;
    }

    public int light(int kind, int cell, int range) {
        if (!isKind(kind) || !isCell(cell) || range < 1 || range > 15) {
            return refuse(BEYOND);
        }
        if (lightCount >= MOST_LIGHTS) {
            return refuse(FULL);
        }
        int fault = tape.findFault();
        tape.length = 0;
        if (fault >= 0) {
            return -1 - fault;
        }
        remember(DID_LIGHT, lightCount, 0);
        lights[lightCount].become(kind, cell, range);
        lights[lightCount].take(tape);
        lightCount++;
        return lightCount - 1;
    }

    public int as(int light, int kind) {
        if (!isLight(light) || !isKind(kind)) {
            return refuse(BEYOND);
        }
        return isUnder(lights[light].kind, kind) ? light : refuse(KIND);
    }

    public int lightIs(int light, int what) {
        if (!isLight(light)) {
            return refuse(BEYOND);
        }
        Light of = lights[light];
        switch (what) {
            case 0: return of.kind;
            case 1: return of.cell;
            case 2: return of.range;
            case 3: return of.colour;
            case 4: return of.seconds;
            case 5: return Long.bitCount(of.lit);
            case 6: return of.sectorCount;
            case 7: return of.doubt;
            default: return refuse(BEYOND);
        }
    }

    public int at(int light, int second) {
        if (!isLight(light) || second < 0) {
            return refuse(BEYOND);
        }
        return lights[light].isLitAt(second) ? 1 : 0;
    }

    public int sector(int light, int from, int to, int colour) {
        if (!isLight(light) || !isDirection(from) || !isDirection(to) || colour < 0 || colour > DARK) {
            return refuse(BEYOND);
        }
        Light of = lights[light];
        if (of.sectorCount >= Light.MOST_SECTORS) {
            return refuse(FULL);
        }
        remember(DID_SECTOR, light, 0);
        of.sectors[of.sectorCount] = colour << 16 | turnedOver(from, to);
        of.sectorCount++;
        return of.sectorCount;
    }

    public int doubt(int light, int v) {
        if (!isLight(light) || v < 0 || v > 3) {
            return refuse(BEYOND);
        }
        Light of = lights[light];
        if (of.kind != BUOY) {
            return refuse(KIND);
        }
        int was = of.doubt;
        remember(DID_DOUBT, light, was);
        of.doubt = v;
        return was;
    }

    // ---- seeing

    public int direction(int from, int to) {
        if (!isCell(from) || !isCell(to)) {
            return refuse(BEYOND);
        }
        return from == to ? refuse(SIZE) : directionOf(from, to);
    }

    public int colour(int light, int cell) {
        if (!isLight(light) || !isCell(cell)) {
            return refuse(BEYOND);
        }
        return colourIn(lights[light], cell);
    }

    public int seen(int cell) {
        return isCell(cell) ? seenFrom(cell) : refuse(BEYOND);
    }

    public int haze(int v) {
        if (v < 0 || v > 15) {
            return refuse(BEYOND);
        }
        int was = hazeNow;
        remember(DID_HAZE, 0, was);
        hazeNow = v;
        return was;
    }

    public int day(int v) {
        if (!isDay(v)) {
            return refuse(BEYOND);
        }
        int was = dayNow;
        remember(DID_DAY, 0, was);
        dayNow = v;
        return was;
    }

    public int apart(int a, int b) {
        if (!isLight(a) || !isLight(b)) {
            return refuse(BEYOND);
        }
        if (a == b) {
            return refuse(SIZE);
        }
        int alike = mostAlike(lights[a], lights[b]);
        return alike < 0 ? refuse(NONE) : alike + 1;
    }

    public int allApart(int set) {
        if ((set & ~allLights()) != 0) {
            return refuse(BEYOND);
        }
        int most = 0;
        for (int a = 0; a < lightCount; a++) {
            for (int b = a + 1; b < lightCount; b++) {
                if ((set >> a & 1) == 0 || (set >> b & 1) == 0) {
                    continue;
                }
                int alike = mostAlike(lights[a], lights[b]);
                if (alike < 0) {
                    return refuse(NONE);
                }
                most = Math.max(most, alike);
            }
        }
        return most + 1;
    }

    public int fits(int s) {
        if (!isSheet(s)) {
            return refuse(BEYOND);
        }
        Sheet of = sheets[s];
        if (of.bits == 0) {
            return refuse(MISSING);
        }
        long row = of.asSeconds();
        int set = 0;
        for (int i = 0; i < lightCount; i++) {
            if (lights[i].hasRow(row, of.count)) {
                set |= 1 << i;
            }
        }
        return set;
    }

    // ---- fixes, fairway

    public int bearing(int light, int from, int to) {
        if (!isLight(light) || !isDirection(from) || !isDirection(to)) {
            return refuse(BEYOND);
        }
        if (bearingCount >= MOST_BEARINGS) {
            return refuse(FULL);
        }
        remember(DID_BEARING, 0, 0);
        bearings[bearingCount] = light << 16 | turnedOver(from, to);
        bearingCount++;
        return bearingCount;
    }

    public int clear() {
        int was = bearingCount;
        Step step = remember(DID_CLEAR, 0, was);
        System.arraycopy(bearings, 0, step.row, 0, was);
        bearingCount = 0;
        return was;
    }

    public int fix(boolean least) {
        findFix();
        int count = 0;
        for (int cell = 0; cell < CELLS; cell++) {
            if (inFix[cell]) {
                if (least) {
                    return cell;
                }
                count++;
            }
        }
        return least ? refuse(NONE) : count;
    }

    public int may(int cell) {
        if (!isCell(cell)) {
            return refuse(BEYOND);
        }
        findFix();
        return inFix[cell] ? 1 : 0;
    }

    public int fairway(int cell, boolean is) {
        if (!isCell(cell)) {
            return refuse(BEYOND);
        }
        boolean was = placeInFairway(cell) >= 0;
        if (is && !was && fairwayCount >= MOST_FAIRWAY) {
            return refuse(FULL);
        }
        remember(DID_FAIRWAY, cell, was ? 1 : 0);
        setFairway(cell, is);
        return fairwayCount;
    }

    public int kept() {
        for (int i = 0; i < fairwayCount; i++) {
            fairwaySights[i] = seenFrom(fairwayCells[i]);
        }
        int best = -1;
        int sets = 1 << lightCount;
        for (int set = 0; set < sets; set++) {
            boolean fewer = best < 0 || Integer.bitCount(set) < Integer.bitCount(best);
            if (fewer && lightsFairway(set)) {
                best = set;
            }
        }
        return best < 0 ? refuse(NONE) : best;
    }

    // ---- outages

    public int word(int light, int days, int hour, boolean out) {
        if (!isLight(light) || days < 0 || days > 9999 || !isHour(hour)) {
            return refuse(BEYOND);
        }
        int from = days / 100;
        int to = days % 100;
        if (from > to || hour < words.latestHour()) {
            return refuse(SIZE);
        }
        if (words.count >= Words.MOST) {
            return refuse(FULL);
        }
        remember(DID_WORD, 0, 0);
        words.append(light, from, to, hour, out);
        return words.count;
    }

    public int out(int light, int day, int hour) {
        if (!isLight(light) || day < 0 || day > 99 || !isHour(hour)) {
            return refuse(BEYOND);
        }
        return words.tellOut(light, day, hour) ? 1 : 0;
    }

    // ---- keepers

    public int keeper(int light, int since) {
        if (!isLight(light) || !isDay(since)) {
            return refuse(BEYOND);
        }
        Light of = lights[light];
        if (!of.isRock()) {
            return refuse(KIND);
        }
        int was = of.since;
        remember(DID_KEEPER, light, was);
        of.since = since;
        return was;
    }

    public int limit(int light, int v) {
        if (!isLight(light) || v < 0 || v > 9) {
            return refuse(BEYOND);
        }
        Light of = lights[light];
        if (!of.isRock()) {
            return refuse(KIND);
        }
        int was = of.limit;
        remember(DID_LIMIT, light, was);
        of.limit = v;
        return was;
    }

    public int seas(int s) {
        if (!isSheet(s)) {
            return refuse(BEYOND);
        }
        Sheet of = sheets[s];
        if (of.bits == 0) {
            return refuse(MISSING);
        }
        Step step = remember(DID_SEAS, 0, 0);
        System.arraycopy(heights, 0, step.row, 0, DAYS);
        int told = 0;
        for (int i = 0; i < of.count && i < DAYS; i++) {
            int height = of.numbers[i];
            if (height >= 0 && height <= 9) {
                heights[i] = height;
                told++;
            }
        }
        return told;
    }

    public int overdue() {
        findLandings();
        return landings.least;
    }

    public int landing(int day) {
        if (!isDay(day)) {
            return refuse(BEYOND);
        }
        if (day < dayNow) {
            return refuse(NONE);
        }
        findLandings();
        int rock = landings.plan[day];
        return rock < 0 ? refuse(NONE) : rock;
    }

    public int proves(int s) {
        if (!isSheet(s)) {
            return refuse(BEYOND);
        }
        Sheet of = sheets[s];
        if (of.bits == 0) {
            return refuse(MISSING);
        }
        if (of.count != DAYS - dayNow) {
            return refuse(SIZE);
        }
        findLandings();
        return firstWrong(of);
    }

    // ---- sheets, the whole

    public int sheet(int s, int bits, int n) {
        boolean known = bits == 0 || bits == 8 || bits == 16 || bits == 32;
        if (!isSheet(s) || !known) {
            return refuse(BEYOND);
        }
        if (n < 0) {
            return refuse(SIZE);
        }
        if (n > Sheet.MOST) {
            return refuse(BEYOND);
        }
        sheets[s].renew(bits, bits == 0 ? 0 : n);
        return sheets[s].count;
    }

    public int put(int s, int i, int v) {
        if (!isSheet(s)) {
            return refuse(BEYOND);
        }
        Sheet of = sheets[s];
        if (of.bits == 0) {
            return refuse(MISSING);
        }
        if (i < 0 || i >= of.count) {
            return refuse(BEYOND);
        }
        of.numbers[i] = of.lowest(v);
        return 0;
    }

    public int copy(int s, int from, int t, int to, int n) {
        if (!isSheet(s) || !isSheet(t)) {
            return refuse(BEYOND);
        }
        Sheet source = sheets[s];
        Sheet target = sheets[t];
        if (source.bits == 0 || target.bits == 0) {
            return refuse(MISSING);
        }
        if (source.bits != target.bits) {
            return refuse(KIND);
        }
        if (!source.hasNumbers(from, n) || !target.hasNumbers(to, n)) {
            return refuse(BEYOND);
        }
        System.arraycopy(source.numbers, from, target.numbers, to, n);
        return n;
    }

    public int undo() {
        Step step = past.takeLatest();
        if (step == null) {
            return refuse(NONE);
        }
        takeBack(step);
        forgetFound();
        return past.count;
    }

    public int all(int what) {
        switch (what) {
            case 0: return lightCount;
            case 1: return countRocks();
            case 2: return bearingCount;
            case 3: return fairwayCount;
            case 4: return words.count;
            case 5: return tape.length;
            case 6: return findings;
            default: return refuse(BEYOND);
        }
    }

    // ---- what the calls share

    private int refuse(int finding) {
        findings++;
        return finding;
    }

    private boolean isLight(int light) {
        return light >= 0 && light < lightCount;
    }

    private static boolean isKind(int kind) {
        return kind >= 0 && kind <= TOWER;
    }

    private static boolean isCell(int cell) {
        return cell >= 0 && cell < CELLS;
    }

    private static boolean isDirection(int direction) {
        return direction >= 0 && direction <= 15;
    }

    private static boolean isDay(int day) {
        return day >= 0 && day < DAYS;
    }

    private static boolean isHour(int hour) {
        return hour >= 0 && hour <= LAST_HOUR;
    }

    private static boolean isSheet(int s) {
        return s >= 0 && s < SHEETS;
    }

    private int allLights() {
        return (1 << lightCount) - 1;
    }

    private int countRocks() {
        int count = 0;
        for (int i = 0; i < lightCount; i++) {
            if (lights[i].isRock()) {
                count++;
            }
        }
        return count;
    }

    private static boolean isUnder(int kind, int over) {
        int at = kind;
        for (int level = 0; level < KIND_OVER.length && at >= 0; level++) {
            if (at == over) {
                return true;
            }
            at = KIND_OVER[at];
        }
        return false;
    }

    // ---- directions and sight

    /** DIRECTIONS from one to another one, turning, as bits. */
    private static int turnedOver(int from, int to) {
        int turns = (to - from) & 15;
        int bits = 0;
        for (int i = 0; i <= turns; i++) {
            bits |= 1 << ((from + i) & 15);
        }
        return bits;
    }

    private static int directionOf(int from, int to) {
        int x = (to & 15) - (from & 15);
        int y = (to >> 4) - (from >> 4);
        boolean firstHalf = x > 0 || (x == 0 && y > 0);
        if (!firstHalf) {
            x = -x;
            y = -y;
        }
        int last = 0;
        for (int d = 1; d < STEP_X.length; d++) {
            // Within a half turn the sign of the cross product tells which of two steps is ahead.
            if (STEP_X[d] * y <= STEP_Y[d] * x) {
                last = d;
            }
        }
        return firstHalf ? last : last + 8;
    }

    private int reachOf(Light light) {
        return Math.max(0, light.range - hazeNow);
    }

    private static boolean isWithin(int reach, int a, int b) {
        int x = (a & 15) - (b & 15);
        int y = (a >> 4) - (b >> 4);
        return x * x + y * y <= reach * reach;
    }

    private static int colourIn(Light light, int cell) {
        if (cell == light.cell) {
            return light.colour;
        }
        return light.colourTowards(directionOf(light.cell, cell));
    }

    private int seenFrom(int cell) {
        int set = 0;
        for (int i = 0; i < lightCount; i++) {
            Light of = lights[i];
            if (isWithin(reachOf(of), cell, of.cell) && colourIn(of, cell) != DARK
                    && !words.tellOut(i, dayNow, LAST_HOUR)) {
                set |= 1 << i;
            }
        }
        return set;
    }

    /** The most seconds in which two LIGHTS can look alike; -1: they do for ever. */
    private static int mostAlike(Light a, Light b) {
        int most = 0;
        for (int i = 0; i < a.seconds; i++) {
            for (int j = 0; j < b.seconds; j++) {
                long differ = a.phases[i] ^ b.phases[j];
                // Rows of at most 30 seconds that agree for 60 agree for ever; 64 are held.
                if (differ == 0) {
                    return -1;
                }
                most = Math.max(most, Long.bitCount((differ & -differ) - 1));
            }
        }
        return most;
    }

    // ---- the fix

    private void findFix() {
        if (fixKnown) {
            return;
        }
        for (int cell = 0; cell < CELLS; cell++) {
            inFix[cell] = holdsForAll(cell);
        }
        fixKnown = true;
    }

    private boolean holdsForAll(int cell) {
        for (int i = 0; i < bearingCount; i++) {
            if (!holdsFor(cell, lights[bearings[i] >> 16], bearings[i] & 0xffff)) {
                return false;
            }
        }
        return true;
    }

    private boolean holdsFor(int cell, Light light, int directions) {
        int reach = reachOf(light);
        int lightX = light.cell & 15;
        int lightY = light.cell >> 4;
        int lastX = Math.min(15, lightX + light.doubt);
        int lastY = Math.min(15, lightY + light.doubt);
        for (int y = Math.max(0, lightY - light.doubt); y <= lastY; y++) {
            for (int x = Math.max(0, lightX - light.doubt); x <= lastX; x++) {
                int place = y * 16 + x;
                if (isWithin(reach, cell, place) && liesIn(directions, cell, place)) {
                    return true;
                }
            }
        }
        return false;
    }

    private static boolean liesIn(int directions, int from, int to) {
        return from == to || (directions >> directionOf(from, to) & 1) == 1;
    }

    // ---- the fairway

    private int placeInFairway(int cell) {
        for (int i = 0; i < fairwayCount; i++) {
            if (fairwayCells[i] == cell) {
                return i;
            }
        }
        return -1;
    }

    private void setFairway(int cell, boolean is) {
        int place = placeInFairway(cell);
        if (is && place < 0 && fairwayCount < MOST_FAIRWAY) {
            fairwayCells[fairwayCount] = cell;
            fairwayCount++;
        }
        if (!is && place >= 0) {
            fairwayCount--;
            fairwayCells[place] = fairwayCells[fairwayCount];
        }
    }

    private boolean lightsFairway(int set) {
        for (int i = 0; i < fairwayCount; i++) {
            if (Integer.bitCount(set & fairwaySights[i]) < 2) {
                return false;
            }
        }
        return true;
    }

    // ---- the landings

    private void findLandings() {
        if (!landingsKnown) {
            landings.find(lights, lightCount, heights, dayNow);
            landingsKnown = true;
        }
    }

    /** The place of the first number that may not be, or how many there are, or -1. */
    private int firstWrong(Sheet of) {
        int landed = 0;
        int total = 0;
        for (int i = 0; i < of.count && dayNow + i < DAYS; i++) {
            int rock = of.numbers[i];
            if (rock == -1) {
                continue;
            }
            boolean can = isLight(rock) && lights[rock].isRock() && lights[rock].landsIn(heights[dayNow + i]);
            if (!can || (landed >> rock & 1) == 1) {
                return i;
            }
            landed |= 1 << rock;
            total += lights[rock].overdueOn(dayNow + i);
        }
        for (int i = 0; i < lightCount; i++) {
            if (lights[i].isRock() && (landed >> i & 1) == 0) {
                total += lights[i].overdueOn(DAYS);
            }
        }
        return total > landings.least ? of.count : -1;
    }

    // ---- what can be undone

    private Step remember(int act, int of, int was) {
        forgetFound();
        Step step = past.next();
        step.act = act;
        step.of = of;
        step.was = was;
        return step;
    }

    private void forgetFound() {
        fixKnown = false;
        landingsKnown = false;
    }

    /** Rows are used up to their counts, and sets by shifts of them: no count may go below 0. */
    private static int oneLess(int count) {
        return Math.max(0, count - 1);
    }

    private void takeBack(Step step) {
        switch (step.act) {
            case DID_LIGHT: lightCount = oneLess(lightCount); break;
            case DID_SECTOR: lights[step.of].sectorCount = oneLess(lights[step.of].sectorCount); break;
            case DID_DOUBT: lights[step.of].doubt = step.was; break;
            case DID_HAZE: hazeNow = step.was; break;
            case DID_DAY: dayNow = step.was; break;
            case DID_BEARING: bearingCount = oneLess(bearingCount); break;
            case DID_CLEAR:
                bearingCount = step.was;
                System.arraycopy(step.row, 0, bearings, 0, bearingCount);
                break;
            case DID_FAIRWAY: setFairway(step.of, step.was == 1); break;
            case DID_WORD: words.count = oneLess(words.count); break;
            case DID_KEEPER: lights[step.of].since = step.was; break;
            case DID_LIMIT: lights[step.of].limit = step.was; break;
            case DID_SEAS: System.arraycopy(step.row, 0, heights, 0, DAYS); break;
            default: break;
        }
    }

    /** One LIGHT of the list. */
    private static final class Light {
        static final int MOST_SECTORS = 4;
        static final int MOST_SECONDS = 30;

        int kind;
        int cell;
        int range;
        int colour;
        int seconds;
        /** Second i has light if bit i is set. */
        long lit;
        /** The 64 seconds that follow when one begins at second i. */
        final long[] phases = new long[MOST_SECONDS];
        /** Each: the COLOUR times 65536, and its DIRECTIONS as bits. */
        final int[] sectors = new int[MOST_SECTORS];
        int sectorCount;
        int doubt;
        int since;
        int limit;

        /** A place in the list is used again after an undo: all that may differ is set anew. */
        void become(int newKind, int newCell, int newRange) {
            kind = newKind;
            cell = newCell;
            range = newRange;
            sectorCount = 0;
            doubt = 0;
            since = 0;
            limit = 4;
        }

        void take(Text text) {
            colour = text.colour;
            seconds = Math.max(1, Math.min(MOST_SECONDS, text.period));
            lit = text.litSeconds();
            for (int i = 0; i < seconds; i++) {
                long row = lit >> i | lit << (seconds - i);
                for (int second = seconds; second < 64; second++) {
                    row |= (row >> (second - seconds) & 1) << second;
                }
                phases[i] = row;
            }
        }

        boolean isLitAt(int second) {
            return seconds > 0 && (lit >> (second % seconds) & 1) == 1;
        }

        boolean hasRow(long row, int length) {
            long whole = (1L << length) - 1;
            for (int i = 0; i < seconds; i++) {
                if ((phases[i] & whole) == row) {
                    return true;
                }
            }
            return false;
        }

        int colourTowards(int direction) {
            for (int i = sectorCount - 1; i >= 0; i--) {
                if ((sectors[i] >> direction & 1) == 1) {
                    return sectors[i] >> 16;
                }
            }
            return kind == TOWER ? DARK : colour;
        }

        boolean isRock() {
            return kind == ROCK || kind == TOWER;
        }

        boolean landsIn(int height) {
            return height <= limit;
        }

        int overdueOn(int day) {
            return Math.max(0, day - since - 10);
        }
    }

    /** THE TAPE, and what its TEXT says. */
    private static final class Text {
        static final int MOST = 40;

        private static final int STEADY = 0;
        private static final int FLASHES = 1;
        private static final int ECLIPSES = 2;
        private static final int QUICK = 3;
        private static final int HALVES = 4;

        private final int[] signs = new int[MOST];
        int length;
        private int place;
        private int number;
        private int rhythm;
        private int times;
        int colour;
        int period;
        private int periodPlace;

        void append(int n, long bytes) {
            for (int i = 0; i < n && length < MOST; i++) {
                signs[length] = (int) (bytes >> (8 * i) & 255);
                length++;
            }
        }

        /** The place of the FAULT; -1: there is none. */
        int findFault() {
            place = 0;
            times = 1;
            period = 1;
            if (!readRhythm() || !readColour()) {
                return place;
            }
            if (rhythm != STEADY && !readPeriod()) {
                return place;
            }
            if (place < length) {
                return place;
            }
            return rhythm == STEADY || goesIn() ? -1 : periodPlace;
        }

        // A reader that answers false has left the place at the byte that can't stand there.
        private boolean readRhythm() {
            if (takes('I')) {
                rhythm = HALVES;
                return takes('s') && takes('o');
            }
            if (takes('F')) {
                rhythm = takes('l') ? FLASHES : STEADY;
                return rhythm == STEADY || readTimes();
            }
            if (takes('O')) {
                rhythm = ECLIPSES;
                return takes('c') && readTimes();
            }
            rhythm = QUICK;
            return takes('Q') && readTimes();
        }

        private boolean readTimes() {
            if (!takes('(')) {
                return true;
            }
            if (!readNumber()) {
                return false;
            }
            times = number;
            return takes(')');
        }

        private boolean readColour() {
            if (takes('W')) {
                colour = 0;
                return true;
            }
            if (takes('R')) {
                colour = 1;
                return true;
            }
            colour = 2;
            return takes('G');
        }

        private boolean readPeriod() {
            periodPlace = place;
            if (!readNumber()) {
                return false;
            }
            period = number;
            return takes('s');
        }

        private boolean readNumber() {
            number = 0;
            int digits = 0;
            while (digits < 2 && isDigit()) {
                number = number * 10 + signs[place] - '0';
                place++;
                digits++;
            }
            return digits > 0;
        }

        private boolean isDigit() {
            return place < length && signs[place] >= '0' && signs[place] <= '9';
        }

        private boolean takes(char sign) {
            if (place >= length || signs[place] != sign) {
                return false;
            }
            place++;
            return true;
        }

        private boolean goesIn() {
            if (period < 1 || period > Light.MOST_SECONDS || times < 1 || times > 15) {
                return false;
            }
            if (rhythm == HALVES) {
                return period % 2 == 0;
            }
            return 2 * times + (rhythm == QUICK ? 1 : 0) <= period;
        }

        /** The seconds with light, as bits; only of a TEXT without a FAULT. */
        long litSeconds() {
            long whole = (1L << period) - 1;
            if (rhythm == STEADY) {
                return whole;
            }
            if (rhythm == HALVES) {
                return (1L << period / 2) - 1;
            }
            long beats = 0;
            for (int i = 0; i < times; i++) {
                beats |= 1L << 2 * i;
            }
            return rhythm == ECLIPSES ? whole & ~beats : beats;
        }
    }

    /** The words on LIGHTS that are OUT or burn, in the order in which they were told. */
    private static final class Words {
        static final int MOST = 20;

        int count;
        private final int[] ofLight = new int[MOST];
        private final int[] firstDay = new int[MOST];
        private final int[] lastDay = new int[MOST];
        private final int[] toldAt = new int[MOST];
        private final boolean[] isOut = new boolean[MOST];

        int latestHour() {
            return count == 0 ? 0 : toldAt[count - 1];
        }

        void append(int light, int from, int to, int hour, boolean out) {
            ofLight[count] = light;
            firstDay[count] = from;
            lastDay[count] = to;
            toldAt[count] = hour;
            isOut[count] = out;
            count++;
        }

        boolean tellOut(int light, int day, int hour) {
            for (int i = count - 1; i >= 0; i--) {
                if (ofLight[i] == light && toldAt[i] <= hour && firstDay[i] <= day && day <= lastDay[i]) {
                    return isOut[i];
                }
            }
            return false;
        }
    }

    /** A SHEET; of 0 bits it is MISSING. */
    private static final class Sheet {
        static final int MOST = 30;

        int bits;
        int count;
        final int[] numbers = new int[MOST];

        void renew(int newBits, int newCount) {
            bits = newBits;
            count = newCount;
            for (int i = 0; i < MOST; i++) {
                numbers[i] = 0;
            }
        }

        int lowest(int v) {
            if (bits == 8) {
                return (byte) v;
            }
            return bits == 16 ? (short) v : v;
        }

        /** Whether n numbers stand from one on; written so that no sum can wrap around. */
        boolean hasNumbers(int from, int n) {
            return from >= 0 && n >= 0 && from <= count && n <= count - from;
        }

        long asSeconds() {
            long row = 0;
            for (int i = 0; i < count; i++) {
                if (numbers[i] != 0) {
                    row |= 1L << i;
                }
            }
            return row;
        }
    }

    /** One act that can be undone: what it did, to which, and what was there. */
    private static final class Step {
        int act;
        int of;
        int was;
        final int[] row = new int[DAYS];
    }

    /** The latest acts, in a ring. */
    private static final class Past {
        private static final int MOST = 16;

        private final Step[] steps = new Step[MOST];
        private int top;
        int count;

        Past() {
            for (int i = 0; i < MOST; i++) {
                steps[i] = new Step();
            }
        }

        Step next() {
            Step step = steps[top];
            top = (top + 1) % MOST;
            count = Math.min(MOST, count + 1);
            return step;
        }

        Step takeLatest() {
            if (count == 0) {
                return null;
            }
            count--;
            top = (top + MOST - 1) % MOST;
            return steps[top];
        }
    }

    /** THE LANDINGS, worked out from the last day back over the sets of ROCKS that are LANDED. */
    private static final class Landings {
        /** Days OVERDUE together. */
        int least;
        /** The ROCK of each day (-1: none). */
        final int[] plan = new int[DAYS];

        private final int[] rocks = new int[MOST_LIGHTS];
        private int rockCount;
        /** Of each of these on the day at hand: days OVERDUE if LANDED (-1: it can't be). */
        private final int[] today = new int[MOST_LIGHTS];
        private int sets;
        /** By set of those LANDED ahead: the least days OVERDUE of what follows. */
        private int[] costs = new int[0];
        /** By day and set: the first choice with the least of these (-1: none). */
        private int[] choices = new int[0];

        void find(Light[] lights, int lightCount, int[] heights, int day) {
            int others = pickRocks(lights, lightCount, heights, day);
            makeRoom();
            endCosts(lights);
            for (int d = DAYS - 1; d >= day; d--) {
                lookAt(lights, d, heights[d]);
                workBack(d);
            }
            follow(day);
            least = others + costs[0];
        }

        /**
         * Takes the ROCKS for which a landing can spare a day; the rest are never LANDED, as none is
         * ahead of ROCKS. Answers how many days OVERDUE the rest have.
         */
        private int pickRocks(Light[] lights, int lightCount, int[] heights, int day) {
            rockCount = 0;
            int others = 0;
            for (int i = 0; i < lightCount; i++) {
                if (!lights[i].isRock() || lights[i].overdueOn(DAYS) == 0) {
                    continue;
                }
                if (landsFrom(lights[i], heights, day)) {
                    rocks[rockCount] = i;
                    rockCount++;
                } else {
                    others += lights[i].overdueOn(DAYS);
                }
            }
            return others;
        }

        private static boolean landsFrom(Light rock, int[] heights, int day) {
            for (int d = day; d < DAYS; d++) {
                if (rock.landsIn(heights[d])) {
                    return true;
                }
            }
            return false;
        }

        private void makeRoom() {
            sets = 1 << rockCount;
            if (costs.length < sets) {
                costs = new int[sets];
                choices = new int[sets * DAYS];
            }
        }

        private void endCosts(Light[] lights) {
            for (int set = 0; set < sets; set++) {
                int cost = 0;
                for (int i = 0; i < rockCount; i++) {
                    if ((set >> i & 1) == 0) {
                        cost += lights[rocks[i]].overdueOn(DAYS);
                    }
                }
                costs[set] = cost;
            }
        }

        private void lookAt(Light[] lights, int day, int height) {
            for (int i = 0; i < rockCount; i++) {
                Light rock = lights[rocks[i]];
                today[i] = rock.landsIn(height) ? rock.overdueOn(day) : -1;
            }
        }

        /** Sets rise, so those with a ROCK more still hold the costs of the day that follows. */
        private void workBack(int day) {
            for (int set = 0; set < sets; set++) {
                int cost = costs[set];
                int choice = -1;
                for (int i = 0; i < rockCount; i++) {
                    if (today[i] < 0 || (set >> i & 1) == 1) {
                        continue;
                    }
                    int with = today[i] + costs[set | 1 << i];
                    if (with < cost) {
                        cost = with;
                        choice = i;
                    }
                }
                costs[set] = cost;
                choices[day * sets + set] = choice;
            }
        }

        private void follow(int day) {
            int set = 0;
            for (int d = day; d < DAYS; d++) {
                int choice = choices[d * sets + set];
                plan[d] = choice < 0 ? -1 : rocks[choice];
                set = choice < 0 ? set : set | 1 << choice;
            }
        }
    }
}
