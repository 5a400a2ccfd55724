import java.util.ArrayDeque;
import java.util.ArrayList;
import java.util.Arrays;
import java.util.Deque;
import java.util.HashMap;
import java.util.HashSet;
import java.util.List;
import java.util.Map;
import java.util.Set;

/**
 * The document told once more, as plainly as can be and by other ways than the program's: the list's
 * texts by all texts that there are, rhythms as strings, undo by whole copies. RunsTest holds the
 * program against it.
 */
final class SlowCoast {
    private static final Set<String> TEXTS = new HashSet<>();
    private static final Set<String> BEGINNINGS = new HashSet<>();

    static {
        List<String> numbers = new ArrayList<>();
        for (int i = 0; i < 10; i++) {
            numbers.add("" + i);
            for (int j = 0; j < 10; j++) {
                numbers.add("" + i + j);
            }
        }
        List<String> rhythms = new ArrayList<>(List.of("Fl", "Oc", "Q", "Iso"));
        for (String rhythm : List.of("Fl", "Oc", "Q")) {
            for (String number : numbers) {
                rhythms.add(rhythm + "(" + number + ")");
            }
        }
        for (String colour : List.of("W", "R", "G")) {
            TEXTS.add("F" + colour);
            for (String rhythm : rhythms) {
                for (String number : numbers) {
                    TEXTS.add(rhythm + colour + number + "s");
                }
            }
        }
        for (String text : TEXTS) {
            for (int i = 0; i <= text.length(); i++) {
                BEGINNINGS.add(text.substring(0, i));
            }
        }
    }

    private static final class Lamp {
        int kind;
        int x;
        int y;
        int range;
        int colour;
        String row;
        List<int[]> sectors = new ArrayList<>();
        int doubt;
        int since;
        int limit = 4;

        Lamp twin() {
            Lamp l = new Lamp();
            l.kind = kind;
            l.x = x;
            l.y = y;
            l.range = range;
            l.colour = colour;
            l.row = row;
            l.sectors = new ArrayList<>(sectors);
            l.doubt = doubt;
            l.since = since;
            l.limit = limit;
            return l;
        }

        boolean rock() {
            return kind == 1 || kind == 3;
        }

        int late(int day) {
            return day - since > 10 ? day - since - 10 : 0;
        }
    }

    private static final class Coast {
        List<Lamp> lamps = new ArrayList<>();
        int haze;
        int day;
        List<int[]> bearings = new ArrayList<>();
        Set<Integer> fairway = new HashSet<>();
        List<int[]> words = new ArrayList<>();
        int[] seas = new int[20];

        Coast twin() {
            Coast c = new Coast();
            for (Lamp l : lamps) {
                c.lamps.add(l.twin());
            }
            c.haze = haze;
            c.day = day;
            c.bearings = new ArrayList<>(bearings);
            c.fairway = new HashSet<>(fairway);
            c.words = new ArrayList<>(words);
            c.seas = seas.clone();
            return c;
        }
    }

    private Coast now = new Coast();
    private final Deque<Coast> before = new ArrayDeque<>();
    private String tape = "";
    private final int[][] sheets = new int[4][];
    private final int[] bits = new int[4];
    private int findings;

    private int told(int answer) {
        if (answer < -99999) {
            findings++;
        }
        return answer;
    }

    private void keep() {
        before.addLast(now.twin());
        if (before.size() > 16) {
            before.removeFirst();
        }
    }

    private boolean lamp(int i) {
        return 0 <= i && i < now.lamps.size();
    }

    private static boolean from0(int v, int to) {
        return 0 <= v && v <= to;
    }

    int feed(int n, long bytes) {
        if (n < 1 || n > 8) {
            return told(Due.BEYOND);
        }
        if (tape.length() + n > 40) {
            return told(Due.FULL);
        }
        for (int i = 0; i < n; i++) {
            tape += (char) ((bytes >>> (8 * i)) & 0xff);
        }
        return tape.length();
    }

    private static int faultOf(String text) {
        for (int i = 1; i <= text.length(); i++) {
            if (!BEGINNINGS.contains(text.substring(0, i))) {
                return i - 1;
            }
        }
        if (!TEXTS.contains(text)) {
            return text.length();
        }
        return rowOf(text) == null ? periodPlace(text) : -1;
    }

    private static int periodPlace(String text) {
        return Math.max(text.indexOf('W'), Math.max(text.indexOf('R'), text.indexOf('G'))) + 1;
    }

    /** The rhythm as # and . ; null: it does not go in. */
    private static String rowOf(String text) {
        int at = periodPlace(text);
        if (at == text.length()) {
            return "#";
        }
        int period = Integer.parseInt(text.substring(at, text.length() - 1));
        if (period < 1 || period > 30) {
            return null;
        }
        if (text.startsWith("Iso")) {
            return period % 2 != 0 ? null : "#".repeat(period / 2) + ".".repeat(period / 2);
        }
        int open = text.indexOf('(');
        int n = open < 0 ? 1 : Integer.parseInt(text.substring(open + 1, text.indexOf(')')));
        if (n < 1 || n > 15) {
            return null;
        }
        String row;
        if (text.startsWith("Oc")) {
            row = ".#".repeat(n);
        } else {
            row = "#.".repeat(n) + (text.startsWith("Q") ? "." : "");
        }
        if (row.length() > period) {
            return null;
        }
        String rest = text.startsWith("Oc") ? "#" : ".";
        return row + rest.repeat(period - row.length());
    }

    int light(int kind, int cell, int range) {
        if (!from0(kind, 3) || !from0(cell, 255) || range < 1 || range > 15) {
            return told(Due.BEYOND);
        }
        if (now.lamps.size() == 10) {
            return told(Due.FULL);
        }
        String text = tape;
        tape = "";
        int fault = faultOf(text);
        if (fault >= 0) {
            return -1 - fault;
        }
        keep();
        Lamp l = new Lamp();
        l.kind = kind;
        l.x = cell % 16;
        l.y = cell / 16;
        l.range = range;
        l.colour = "WRG".indexOf(text.charAt(periodPlace(text) - 1));
        l.row = rowOf(text);
        now.lamps.add(l);
        return now.lamps.size() - 1;
    }

    int as(int light, int kind) {
        if (!lamp(light) || !from0(kind, 3)) {
            return told(Due.BEYOND);
        }
        int is = now.lamps.get(light).kind;
        return kind == 0 || kind == is || (kind == 1 && is == 3) ? light : told(Due.KIND);
    }

    int lightIs(int light, int what) {
        if (!lamp(light) || !from0(what, 7)) {
            return told(Due.BEYOND);
        }
        Lamp l = now.lamps.get(light);
        int lit = l.row.replace(".", "").length();
        return new int[] {l.kind, l.x + 16 * l.y, l.range, l.colour, l.row.length(), lit, l.sectors.size(), l.doubt}[what];
    }

    int at(int light, int second) {
        if (!lamp(light) || second < 0) {
            return told(Due.BEYOND);
        }
        String row = now.lamps.get(light).row;
        return row.charAt(second % row.length()) == '#' ? 1 : 0;
    }

    int sector(int light, int from, int to, int colour) {
        if (!lamp(light) || !from0(from, 15) || !from0(to, 15) || !from0(colour, 3)) {
            return told(Due.BEYOND);
        }
        if (now.lamps.get(light).sectors.size() == 4) {
            return told(Due.FULL);
        }
        keep();
        now.lamps.get(light).sectors.add(new int[] {from, to, colour});
        return now.lamps.get(light).sectors.size();
    }

    int doubt(int light, int v) {
        if (!lamp(light) || !from0(v, 3)) {
            return told(Due.BEYOND);
        }
        if (now.lamps.get(light).kind != 2) {
            return told(Due.KIND);
        }
        keep();
        int was = now.lamps.get(light).doubt;
        now.lamps.get(light).doubt = v;
        return was;
    }

    private static double angle(int x, int y) {
        double a = Math.atan2(x, y);
        return a < 0 ? a + 2 * Math.PI : a;
    }

    /** By angles: two steps of THE SEA that differ in angle differ by far more than rounding does. */
    private static int directionOf(int x, int y) {
        int[][] steps = {{0, 1}, {1, 2}, {1, 1}, {2, 1}, {1, 0}, {2, -1}, {1, -1}, {1, -2},
            {0, -1}, {-1, -2}, {-1, -1}, {-2, -1}, {-1, 0}, {-2, 1}, {-1, 1}, {-1, 2}};
        int last = 0;
        for (int d = 0; d < 16; d++) {
            if (angle(steps[d][0], steps[d][1]) <= angle(x, y) + 1e-9) {
                last = d;
            }
        }
        return last;
    }

    private static boolean turnHas(int from, int to, int direction) {
        for (int d = from; ; d = (d + 1) % 16) {
            if (d == direction) {
                return true;
            }
            if (d == to) {
                return false;
            }
        }
    }

    int direction(int from, int to) {
        if (!from0(from, 255) || !from0(to, 255)) {
            return told(Due.BEYOND);
        }
        return from == to ? told(Due.SIZE) : directionOf(to % 16 - from % 16, to / 16 - from / 16);
    }

    private static int colourOf(Lamp l, int cell) {
        int x = cell % 16 - l.x;
        int y = cell / 16 - l.y;
        if (x == 0 && y == 0) {
            return l.colour;
        }
        int colour = l.kind == 3 ? 3 : l.colour;
        for (int[] sector : l.sectors) {
            if (turnHas(sector[0], sector[1], directionOf(x, y))) {
                colour = sector[2];
            }
        }
        return colour;
    }

    int colour(int light, int cell) {
        if (!lamp(light) || !from0(cell, 255)) {
            return told(Due.BEYOND);
        }
        return colourOf(now.lamps.get(light), cell);
    }

    private boolean reaches(Lamp l, int x, int y) {
        int reach = l.range > now.haze ? l.range - now.haze : 0;
        return x * x + y * y <= reach * reach;
    }

    private Set<Integer> sights(int cell) {
        Set<Integer> set = new HashSet<>();
        for (int i = 0; i < now.lamps.size(); i++) {
            Lamp l = now.lamps.get(i);
            if (reaches(l, l.x - cell % 16, l.y - cell / 16) && colourOf(l, cell) != 3 && !outOn(i, now.day, 999)) {
                set.add(i);
            }
        }
        return set;
    }

    int seen(int cell) {
        if (!from0(cell, 255)) {
            return told(Due.BEYOND);
        }
        int set = 0;
        for (int i : sights(cell)) {
            set += 1 << i;
        }
        return set;
    }

    int haze(int v) {
        if (!from0(v, 15)) {
            return told(Due.BEYOND);
        }
        keep();
        int was = now.haze;
        now.haze = v;
        return was;
    }

    int day(int v) {
        if (!from0(v, 19)) {
            return told(Due.BEYOND);
        }
        keep();
        int was = now.day;
        now.day = v;
        return was;
    }

    int today() {
        return now.day;
    }

    private static Set<String> rows(String row, int n) {
        String long1 = row.repeat(n / row.length() + 2);
        Set<String> rows = new HashSet<>();
        for (int i = 0; i < row.length(); i++) {
            rows.add(long1.substring(i, i + n));
        }
        return rows;
    }

    private int apartBy(Lamp a, Lamp b) {
        for (int n = 1; n <= 70; n++) {
            Set<String> both = rows(a.row, n);
            both.retainAll(rows(b.row, n));
            if (both.isEmpty()) {
                return n;
            }
        }
        return Due.NONE;
    }

    int apart(int a, int b) {
        if (!lamp(a) || !lamp(b)) {
            return told(Due.BEYOND);
        }
        return told(a == b ? Due.SIZE : apartBy(now.lamps.get(a), now.lamps.get(b)));
    }

    int allApart(int set) {
        List<Lamp> some = new ArrayList<>();
        for (int i = 0; i < 32; i++) {
            if ((set >>> i & 1) == 1) {
                if (!lamp(i)) {
                    return told(Due.BEYOND);
                }
                some.add(now.lamps.get(i));
            }
        }
        int most = 1;
        for (Lamp a : some) {
            for (Lamp b : some) {
                int n = a == b ? 1 : apartBy(a, b);
                if (n == Due.NONE) {
                    return told(Due.NONE);
                }
                most = Math.max(most, n);
            }
        }
        return most;
    }

    int fits(int s) {
        if (!from0(s, 3)) {
            return told(Due.BEYOND);
        }
        if (sheets[s] == null) {
            return told(Due.MISSING);
        }
        String row = "";
        for (int v : sheets[s]) {
            row += v == 0 ? "." : "#";
        }
        int set = 0;
        for (int i = 0; i < now.lamps.size(); i++) {
            if (now.lamps.get(i).row.repeat(70).contains(row)) {
                set |= 1 << i;
            }
        }
        return set;
    }

    int bearing(int light, int from, int to) {
        if (!lamp(light) || !from0(from, 15) || !from0(to, 15)) {
            return told(Due.BEYOND);
        }
        if (now.bearings.size() == 8) {
            return told(Due.FULL);
        }
        keep();
        now.bearings.add(new int[] {light, from, to});
        return now.bearings.size();
    }

    int clear() {
        keep();
        int was = now.bearings.size();
        now.bearings.clear();
        return was;
    }

    private boolean holds(int cell, int[] bearing) {
        Lamp l = now.lamps.get(bearing[0]);
        for (int other = 0; other < 256; other++) {
            int ox = other % 16;
            int oy = other / 16;
            if (Math.abs(ox - l.x) > l.doubt || Math.abs(oy - l.y) > l.doubt) {
                continue;
            }
            int x = ox - cell % 16;
            int y = oy - cell / 16;
            if (reaches(l, x, y) && (other == cell || turnHas(bearing[1], bearing[2], directionOf(x, y)))) {
                return true;
            }
        }
        return false;
    }

    private boolean isInFix(int cell) {
        for (int[] bearing : now.bearings) {
            if (!holds(cell, bearing)) {
                return false;
            }
        }
        return true;
    }

    int fix(boolean least) {
        List<Integer> cells = new ArrayList<>();
        for (int cell = 0; cell < 256; cell++) {
            if (isInFix(cell)) {
                cells.add(cell);
            }
        }
        if (least) {
            return cells.isEmpty() ? told(Due.NONE) : cells.get(0);
        }
        return cells.size();
    }

    int may(int cell) {
        if (!from0(cell, 255)) {
            return told(Due.BEYOND);
        }
        return isInFix(cell) ? 1 : 0;
    }

    int fairway(int cell, boolean is) {
        if (!from0(cell, 255)) {
            return told(Due.BEYOND);
        }
        if (is && now.fairway.size() == 12 && !now.fairway.contains(cell)) {
            return told(Due.FULL);
        }
        keep();
        if (is) {
            now.fairway.add(cell);
        } else {
            now.fairway.remove(cell);
        }
        return now.fairway.size();
    }

    int kept() {
        for (int many = 0; many <= now.lamps.size(); many++) {
            for (int set = 0; set < 1 << now.lamps.size(); set++) {
                if (Integer.bitCount(set) == many && keepsAll(set)) {
                    return set;
                }
            }
        }
        return told(Due.NONE);
    }

    private boolean keepsAll(int set) {
        for (int cell : now.fairway) {
            if (Integer.bitCount(seen(cell) & set) < 2) {
                return false;
            }
        }
        return true;
    }

    int word(int light, int days, int hour, boolean out) {
        if (!lamp(light) || !from0(days, 9999) || !from0(hour, 999)) {
            return told(Due.BEYOND);
        }
        int many = now.words.size();
        if (days / 100 > days % 100 || (many > 0 && hour < now.words.get(many - 1)[3])) {
            return told(Due.SIZE);
        }
        if (many == 20) {
            return told(Due.FULL);
        }
        keep();
        now.words.add(new int[] {light, days / 100, days % 100, hour, out ? 1 : 0});
        return many + 1;
    }

    private boolean outOn(int light, int day, int hour) {
        boolean out = false;
        for (int[] word : now.words) {
            if (word[0] == light && word[1] <= day && day <= word[2] && word[3] <= hour) {
                out = word[4] == 1;
            }
        }
        return out;
    }

    int out(int light, int day, int hour) {
        if (!lamp(light) || !from0(day, 99) || !from0(hour, 999)) {
            return told(Due.BEYOND);
        }
        return outOn(light, day, hour) ? 1 : 0;
    }

    int keeper(int light, int since) {
        if (!lamp(light) || !from0(since, 19)) {
            return told(Due.BEYOND);
        }
        if (!now.lamps.get(light).rock()) {
            return told(Due.KIND);
        }
        keep();
        int was = now.lamps.get(light).since;
        now.lamps.get(light).since = since;
        return was;
    }

    int limit(int light, int v) {
        if (!lamp(light) || !from0(v, 9)) {
            return told(Due.BEYOND);
        }
        if (!now.lamps.get(light).rock()) {
            return told(Due.KIND);
        }
        keep();
        int was = now.lamps.get(light).limit;
        now.lamps.get(light).limit = v;
        return was;
    }

    int seas(int s) {
        if (!from0(s, 3)) {
            return told(Due.BEYOND);
        }
        if (sheets[s] == null) {
            return told(Due.MISSING);
        }
        keep();
        int told = 0;
        for (int d = 0; d < 20 && d < sheets[s].length; d++) {
            if (from0(sheets[s][d], 9)) {
                now.seas[d] = sheets[s][d];
                told++;
            }
        }
        return told;
    }

    /** Days OVERDUE together, and then the ROCK of each day from one on: the least such row. */
    private int[] bestFrom(int day, int landed, Map<Integer, int[]> known) {
        int key = day * 1024 + landed;
        if (known.containsKey(key)) {
            return known.get(key);
        }
        int[] best = null;
        if (day == 20) {
            best = new int[] {0};
            for (int i = 0; i < now.lamps.size(); i++) {
                if (now.lamps.get(i).rock() && (landed >> i & 1) == 0) {
                    best[0] += now.lamps.get(i).late(20);
                }
            }
        }
        for (int i = -1; day < 20 && i < now.lamps.size(); i++) {
            if (i >= 0 && !mayLand(i, day, landed)) {
                continue;
            }
            int[] rest = bestFrom(day + 1, i < 0 ? landed : landed | 1 << i, known);
            int[] row = new int[rest.length + 1];
            row[0] = rest[0] + (i < 0 ? 0 : now.lamps.get(i).late(day));
            row[1] = i;
            System.arraycopy(rest, 1, row, 2, rest.length - 1);
            if (best == null || Arrays.compare(row, best) < 0) {
                best = row;
            }
        }
        known.put(key, best);
        return best;
    }

    private boolean mayLand(int i, int day, int landed) {
        Lamp l = now.lamps.get(i);
        return l.rock() && now.seas[day] <= l.limit && (landed >> i & 1) == 0;
    }

    private int[] best() {
        return bestFrom(now.day, 0, new HashMap<>());
    }

    int overdue() {
        return best()[0];
    }

    int landing(int day) {
        if (!from0(day, 19)) {
            return told(Due.BEYOND);
        }
        int rock = day < now.day ? -1 : best()[1 + day - now.day];
        return rock < 0 ? told(Due.NONE) : rock;
    }

    int proves(int s) {
        if (!from0(s, 3)) {
            return told(Due.BEYOND);
        }
        if (sheets[s] == null) {
            return told(Due.MISSING);
        }
        if (sheets[s].length != 20 - now.day) {
            return told(Due.SIZE);
        }
        int total = 0;
        Set<Integer> landed = new HashSet<>();
        for (int i = 0; i < sheets[s].length; i++) {
            int rock = sheets[s][i];
            if (rock == -1) {
                continue;
            }
            if (!lamp(rock) || !mayLand(rock, now.day + i, 0) || !landed.add(rock)) {
                return i;
            }
            total += now.lamps.get(rock).late(now.day + i);
        }
        for (int i = 0; i < now.lamps.size(); i++) {
            if (now.lamps.get(i).rock() && !landed.contains(i)) {
                total += now.lamps.get(i).late(20);
            }
        }
        return total > best()[0] ? sheets[s].length : -1;
    }

    int sheet(int s, int newBits, int n) {
        if (!from0(s, 3) || !Set.of(0, 8, 16, 32).contains(newBits)) {
            return told(Due.BEYOND);
        }
        if (n < 0) {
            return told(Due.SIZE);
        }
        if (n > 30) {
            return told(Due.BEYOND);
        }
        bits[s] = newBits;
        sheets[s] = newBits == 0 ? null : new int[n];
        return newBits == 0 ? 0 : n;
    }

    int put(int s, int i, int v) {
        if (!from0(s, 3)) {
            return told(Due.BEYOND);
        }
        if (sheets[s] == null) {
            return told(Due.MISSING);
        }
        if (!from0(i, sheets[s].length - 1)) {
            return told(Due.BEYOND);
        }
        int spare = 32 - bits[s];
        sheets[s][i] = v << spare >> spare;
        return 0;
    }

    int copy(int s, int from, int t, int to, int n) {
        if (!from0(s, 3) || !from0(t, 3)) {
            return told(Due.BEYOND);
        }
        if (sheets[s] == null || sheets[t] == null) {
            return told(Due.MISSING);
        }
        if (bits[s] != bits[t]) {
            return told(Due.KIND);
        }
        boolean source = from >= 0 && n >= 0 && (long) from + n <= sheets[s].length;
        boolean target = to >= 0 && n >= 0 && (long) to + n <= sheets[t].length;
        if (!source || !target) {
            return told(Due.BEYOND);
        }
        int[] some = Arrays.copyOfRange(sheets[s], from, from + n);
        for (int i = 0; i < n; i++) {
            sheets[t][to + i] = some[i];
        }
        return n;
    }

    int undo() {
        if (before.isEmpty()) {
            return told(Due.NONE);
        }
        now = before.removeLast();
        return before.size();
    }

    int all(int what) {
        if (!from0(what, 6)) {
            return told(Due.BEYOND);
        }
        int rocks = 0;
        for (Lamp l : now.lamps) {
            rocks += l.rock() ? 1 : 0;
        }
        return new int[] {now.lamps.size(), rocks, now.bearings.size(), now.fairway.size(), now.words.size(),
            tape.length(), findings}[what];
    }
}
