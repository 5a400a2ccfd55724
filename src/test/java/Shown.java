import java.util.ArrayList;
import java.util.List;

/**
 * All that later calls show of an object which a run of calls has made. Some things are shown only by
 * acts (haze tells what it was), and an object has 512 calls: so each series of questions is asked of
 * an object of its own, made by the same run.
 */
final class Shown {
    private static final int MOST_CALLS = 512;
    private static final int LIGHTS = 10;
    private static final int[] DAYS = {0, 1, 2, 3, 4, 5, 6, 9, 10, 50, 98, 99};
    private static final int[] HOURS = {0, 4, 5, 6, 7, 8, 998, 999};

    private final List<String> run;
    private final List<String> questions = new ArrayList<>();
    private final List<Integer> answers = new ArrayList<>();
    private CoastLights x;
    private int calls;
    private String series = "";
    /** What all(6) answers. */
    final int findings;

    Shown(List<String> run) {
        this.run = run;
        begin("all");
        findings = x.all(6);
        whole();
        seconds();
        colours();
        sights();
        apart();
        outages();
        whatWas();
        tape();
        hours();
        for (int s = 0; s < 4; s++) {
            numbersOf(s);
            heights("SEAS by sheet " + s + ", ", s);
        }
        heights("SEAS, ", -1);
        undone();
    }

    /** The first question whose answer is another one there; null: there is none. */
    String differenceTo(Shown other) {
        for (int i = 0; i < Math.max(answers.size(), other.answers.size()); i++) {
            if (i >= answers.size() || i >= other.answers.size()) {
                return "how many questions could be asked";
            }
            if (!answers.get(i).equals(other.answers.get(i))) {
                return questions.get(i) + " answered " + answers.get(i) + ", there " + other.answers.get(i);
            }
        }
        return null;
    }

    private void begin(String name) {
        x = new CoastLights();
        for (String call : run) {
            Calls.make(x, call);
        }
        calls = run.size() + 1;
        series = name;
    }

    private int ask(String call) {
        calls++;
        if (calls > MOST_CALLS) {
            throw new IllegalStateException(series + " asks too often, behind " + run.size() + " calls");
        }
        int answer = Calls.make(x, call);
        questions.add(series + ": " + call);
        answers.add(answer);
        return answer;
    }

    private void whole() {
        begin("the whole");
        counts();
        for (int i = 0; i < LIGHTS; i++) {
            for (int what = 0; what < 8; what++) {
                ask("lightIs(" + i + ", " + what + ")");
            }
            for (int kind = 0; kind < 4; kind++) {
                ask("as(" + i + ", " + kind + ")");
            }
        }
    }

    private void counts() {
        for (int what = 0; what < 6; what++) {
            ask("all(" + what + ")");
        }
    }

    private void seconds() {
        begin("seconds");
        for (int i = 0; i < LIGHTS; i++) {
            for (int second = 0; second < 30; second++) {
                ask("at(" + i + ", " + second + ")");
            }
        }
    }

    private void colours() {
        for (int part = 0; part < 7; part++) {
            begin("COLOURS");
            for (int i = 0; i < LIGHTS; i++) {
                for (int cell = part; cell < 256; cell += 7) {
                    ask("colour(" + i + ", " + cell + ")");
                }
            }
        }
    }

    private void sights() {
        begin("SEEN");
        for (int cell = 0; cell < 256; cell++) {
            ask("seen(" + cell + ")");
        }
        begin("FIX");
        for (int cell = 0; cell < 256; cell++) {
            ask("may(" + cell + ")");
        }
        workedOut();
    }

    private void workedOut() {
        ask("fix(false)");
        ask("fix(true)");
        ask("kept()");
        ask("overdue()");
        for (int day = 0; day < 20; day++) {
            ask("landing(" + day + ")");
        }
    }

    private void apart() {
        begin("TOLD APART");
        for (int a = 0; a < LIGHTS; a++) {
            for (int b = a + 1; b < LIGHTS; b++) {
                ask("apart(" + a + ", " + b + ")");
            }
            ask("allApart(" + ((2 << a) - 1) + ")");
        }
    }

    private void outages() {
        for (int day : DAYS) {
            begin("OUT");
            for (int i = 0; i < LIGHTS; i++) {
                for (int hour : HOURS) {
                    ask("out(" + i + ", " + day + ", " + hour + ")");
                }
            }
        }
    }

    private void whatWas() {
        begin("what was");
        ask("haze(0)");
        ask("day(0)");
        for (int i = 0; i < LIGHTS; i++) {
            ask("doubt(" + i + ", 0)");
            ask("keeper(" + i + ", 0)");
            ask("limit(" + i + ", 0)");
        }
    }

    private void tape() {
        for (String more : new String[] {"", "W5s", "lW5s", "FW"}) {
            begin("THE TAPE and '" + more + "'");
            if (!more.isEmpty()) {
                ask(Calls.feed(more));
            }
            int light = ask("light(0, 0, 1)");
            ask("lightIs(" + light + ", 3)");
            ask("lightIs(" + light + ", 4)");
            ask("lightIs(" + light + ", 5)");
            ask("all(5)");
        }
    }

    /** The HOUR of the latest word: below it a word is refused. */
    private void hours() {
        begin("HOURS");
        for (int hour = 0; hour < 1000; hour += hour < 30 || hour > 980 ? 1 : 25) {
            ask("word(0, 0, " + hour + ", true)");
        }
    }

    /** One by one a sheet's numbers come to a sheet of one number, by each of the bits that it may have. */
    private void numbersOf(int s) {
        int spare = s == 3 ? 0 : 3;
        begin("sheet " + s + ", whole");
        ask("fits(" + s + ")");
        ask("proves(" + s + ")");
        ask("seas(" + s + ")");
        for (int bits = 8; bits <= 32; bits *= 2) {
            begin("sheet " + s + " by " + bits + " bits");
            ask("sheet(" + spare + ", " + bits + ", 1)");
            ask("copy(" + s + ", 0, " + spare + ", 0, 0)");
            ask("day(19)");
            for (int i = 0; i <= 30; i++) {
                ask("copy(" + s + ", " + i + ", " + spare + ", 0, 1)");
                ask("fits(" + spare + ")");
                ask("seas(" + spare + ")");
                ask("proves(" + spare + ")");
            }
        }
    }

    /** A row with one landing tells by proves whether the SEA of that day is above a LIMIT. */
    private void heights(String name, int bySheet) {
        for (int limit = 0; limit < 10; limit++) {
            begin(name + "LIMIT " + limit);
            if (bySheet >= 0) {
                ask("seas(" + bySheet + ")");
            }
            int rock = someRock();
            if (rock < 0) {
                return;
            }
            ask("day(0)");
            ask("limit(" + rock + ", " + limit + ")");
            ask("sheet(3, 8, 20)");
            for (int day = 0; day < 20; day++) {
                ask("put(3, " + day + ", -1)");
            }
            for (int day = 0; day < 20; day++) {
                ask("put(3, " + day + ", " + rock + ")");
                ask("proves(3)");
                ask("put(3, " + day + ", -1)");
            }
        }
    }

    private int someRock() {
        for (int i = 0; i < LIGHTS; i++) {
            if (ask("as(" + i + ", 1)") == i) {
                return i;
            }
        }
        ask("light(1, 0, 1)");
        ask("feed(2, 22342)");
        return ask("light(1, 0, 1)");
    }

    private void undone() {
        for (int part = 0; part < 3; part++) {
            begin("undone");
            for (int i = 0; i < 18; i++) {
                ask("undo()");
                if (part == 0) {
                    counts();
                    ask("lightIs(" + i % LIGHTS + ", 6)");
                    ask("lightIs(2, 7)");
                    ask("seen(" + 15 * i + ")");
                } else if (i % 2 == part % 2) {
                    workedOut();
                }
            }
            ask("haze(0)");
            ask("day(0)");
        }
    }
}
