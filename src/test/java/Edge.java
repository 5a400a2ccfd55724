import java.util.ArrayList;
import java.util.List;

/** A sentence of the document that names a boundary, tried behind a run of calls on a new object. */
final class Edge {
    private final String name;
    private final List<String> run = new ArrayList<>();
    private final CoastLights now = new CoastLights();
    private Shown shownNow;

    private Edge(String name) {
        this.name = name;
    }

    static Edge sea(String name) {
        return new Edge(name);
    }

    /** A coast on which something stands wherever something can, so that what changes is shown. */
    static Edge coast(String name) {
        return coastWithoutTape(name).feed("Fl");
    }

    static Edge coastWithoutTape(String name) {
        return sea(name)
            .light("Fl(2)W6s", 0, 85, 10)
            .light("Oc(2)R7s", 1, 17, 9)
            .light("IsoG6s", 2, 136, 8)
            .light("Q(3)W9s", 3, 120, 12)
            .light("FW", 1, 90, 6)
            .sheet(0, 8, 0, 0, 0, 0, 5, 0, 9, 0, 0, 0, 0, 0, 3, 0, 0, 7, 0, 0, 0, 9)
            .sheet(1, 16, 1, 0, 300, 0, -1)
            .sheet(2, 32, -1, -1, 65536, 1)
            .does("seas(0)", "sector(0, 14, 2, 1)", "sector(3, 0, 15, 2)", "sector(3, 4, 6, 3)", "doubt(2, 2)")
            .does("bearing(0, 8, 12)", "bearing(2, 10, 3)")
            .does("fairway(100, true)", "fairway(101, true)", "fairway(116, true)", "fairway(101, false)")
            .does("word(1, 309, 5, true)", "word(1, 505, 7, false)", "word(4, 399, 7, true)")
            .does("keeper(1, 2)", "keeper(3, 4)", "limit(1, 6)", "limit(3, 2)", "haze(1)", "day(3)");
    }

    /** These calls go on with the run; none of them may answer a finding. */
    Edge does(String... calls) {
        for (String call : calls) {
            int answer = goOn(call);
            Due.hold(name + ": " + call + " answered the finding " + answer, answer > -100000);
        }
        return this;
    }

    Edge feed(String text) {
        for (int at = 0; at < text.length(); at += 8) {
            does(Calls.feed(text.substring(at, Math.min(text.length(), at + 8))));
        }
        return this;
    }

    Edge light(String text, int kind, int cell, int range) {
        return feed(text).does("light(" + kind + ", " + cell + ", " + range + ")");
    }

    /** So many LIGHTS of one kind, in CELL 0 with RANGE 1. */
    Edge lights(int many, int kind) {
        for (int i = 0; i < many; i++) {
            light("FW", kind, 0, 1);
        }
        return this;
    }

    Edge sheet(int s, int bits, int... numbers) {
        does("sheet(" + s + ", " + bits + ", " + numbers.length + ")");
        for (int i = 0; i < numbers.length; i++) {
            if (numbers[i] != 0) {
                does("put(" + s + ", " + i + ", " + numbers[i] + ")");
            }
        }
        return this;
    }

    /** The call goes on with the run, and answers so. */
    Edge then(String call, int want) {
        Due.due(name + ": " + call, goOn(call), want);
        return this;
    }

    private int goOn(String call) {
        run.add(call);
        shownNow = null;
        Due.hold(name + " has over 512 calls", run.size() <= 512);
        return Calls.make(now, call);
    }

    /** The call, made on an object of its own, answers so; the run does not have it. */
    Edge tries(String call, int want) {
        Due.due(name + ": " + call, Calls.make(again(run), call), want);
        return this;
    }

    /** The call answers so, and is a question: no later call shows that it was asked. */
    Edge tells(String call, int want) {
        tries(call, want);
        return same(call, with(call), 0);
    }

    /** The call answers a finding; no later call shows that it was made, but for the count of all(6). */
    Edge refused(String call, int finding) {
        tries(call, finding);
        return same(call, with(call), 1);
    }

    /** The numbers from one to another one are taken for '#'; a step to each side, and far off, BEYOND is told. */
    Edge bounds(String call, int from, int to) {
        for (int v : new int[] {from, from + 1, to - 1, to}) {
            String one = call.replace("#", "" + v);
            int answer = Calls.make(again(run), one);
            Due.hold(name + ": " + one + " answered the finding " + answer, answer > -100000);
        }
        for (int v : new int[] {from - 1, to + 1, Due.MIN, Due.MAX}) {
            refused(call.replace("#", "" + v), Due.BEYOND);
        }
        return this;
    }

    /** The act is undone: no later call shows that it was made. */
    Edge undone(String act) {
        List<String> more = with(act);
        more.add("undo()");
        return same(act + ", undone", more, 0);
    }

    /** No later call tells this run from another one, but for so many findings more. */
    Edge showsAs(Edge other, int findingsMore) {
        Shown there = new Shown(new ArrayList<>(other.run));
        Shown here = new Shown(new ArrayList<>(run));
        Due.due(name + ": all(6) beside " + other.name, here.findings, there.findings + findingsMore);
        String difference = here.differenceTo(there);
        Due.hold(name + " is not as " + other.name + ": " + difference, difference == null);
        return this;
    }

    private List<String> with(String call) {
        List<String> more = new ArrayList<>(run);
        more.add(call);
        return more;
    }

    private Edge same(String call, List<String> behind, int findingsMore) {
        if (Due.wrong() >= Due.ENOUGH_WRONG) {
            return this;
        }
        if (shownNow == null) {
            shownNow = new Shown(new ArrayList<>(run));
        }
        Shown after = new Shown(behind);
        Due.due(name + ": all(6) behind " + call, after.findings, shownNow.findings + findingsMore);
        String difference = after.differenceTo(shownNow);
        Due.hold(name + ": " + call + " is shown by " + difference, difference == null);
        return this;
    }

    private static CoastLights again(List<String> calls) {
        CoastLights x = new CoastLights();
        for (String call : calls) {
            Calls.make(x, call);
        }
        return x;
    }
}
