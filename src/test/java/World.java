import java.util.ArrayList;
import java.util.List;

/**
 * One object under test. Its calls are told as text, so that a wrong answer names its call; they are
 * counted, because nothing is promised behind the 512th.
 */
final class World {
    static final int NONE = -1, BAD = -2, STATE = -3, FULL = -4;
    private static final int MOST_CALLS = 512;
    private static final int MOST_THINGS_FOR_PAIRS = 5;

    private final Checks checks;
    private final JudgesLists x = new JudgesLists();
    private int calls;

    World(Checks checks) {
        this.checks = checks;
    }

    /** So many THINGS more. */
    World things(int many) {
        for (int i = 0; i < many; i++) {
            run("thing()");
        }
        return this;
    }

    /** A LIST more with MARKS of the THINGS from 0 on; 0 stands for none. */
    World judge(int weight, int down, int up, int... marks) {
        int list = call("list(" + weight + ", " + down + ", " + up + ")");
        checks.holds("the LIST is taken", list >= 0);
        for (int thing = 0; thing < marks.length; thing++) {
            if (marks[thing] != 0) {
                due("mark(" + list + ", " + thing + ", " + marks[thing] + ")", 0);
            }
        }
        return this;
    }

    /** Calls that lead to where something is looked at: none of them is refused. */
    World run(String... told) {
        for (String call : told) {
            int got = call(call);
            if (got < 0) {
                checks.due(call + ", on the way,", got, 0);
            }
        }
        return this;
    }

    World due(String told, int want) {
        checks.due(told, call(told), want);
        return this;
    }

    /** '#' stands for 0, 1, 2, .. by turns. */
    World each(String pattern, int... want) {
        for (int i = 0; i < want.length; i++) {
            due(pattern.replace("#", Integer.toString(i)), want[i]);
        }
        return this;
    }

    World all(int want, String... told) {
        for (String call : told) {
            due(call, want);
        }
        return this;
    }

    /** Both answer alike, whatever is asked, now and when both work on. */
    void dueLike(World other) {
        for (String question : questions()) {
            due(question, other.call(question));
        }
        for (String step : workOn()) {
            due(step, other.call(step));
        }
    }

    private List<String> questions() {
        int things = call("count(0)");
        int lists = call("count(1)");
        List<String> all = new ArrayList<>();
        ask(all, "count(#)", 5);
        ask(all, "leastDepth(#)", 4);
        ask(all, "reader(#)", 8);
        ask(all, "total(#)", things);
        ask(all, "best(#)", things);
        ask(all, "bound(#, 0)", things);
        ask(all, "bound(#, 1)", things);
        ask(all, "found(#)", Math.max(0, call("reader(1)")));
        for (int list = 0; list < lists; list++) {
            ask(all, "about(" + list + ", #)", 4);
            ask(all, "row(" + list + ", #)", call("about(" + list + ", 3)"));
            ask(all, "place(" + list + ", #, 0)", things);
            ask(all, "place(" + list + ", #, 1)", things);
            ask(all, "depth(" + list + ", #)", 2);
            ask(all, "known(" + list + ", #)", things);
        }
        for (int a = 0; a < things && things <= MOST_THINGS_FOR_PAIRS; a++) {
            ask(all, "ahead(" + a + ", #)", things);
        }
        return all;
    }

    private static List<String> workOn() {
        List<String> all = new ArrayList<>();
        all.add("round()");
        ask(all, "reader(#)", 8);
        all.add("finish()");
        ask(all, "reader(#)", 8);
        all.add("found(0)");
        all.add("least(1)");
        ask(all, "leastDepth(#)", 4);
        all.add("thing()");
        all.add("list(1, 1, 1)");
        return all;
    }

    private static void ask(List<String> all, String pattern, int many) {
        for (int i = 0; i < many; i++) {
            all.add(pattern.replace("#", Integer.toString(i)));
        }
    }

    int call(String told) {
        calls++;
        if (calls > MOST_CALLS) {
            checks.due("how often one object was called", calls, MOST_CALLS);
        }
        String[] parts = told.split("[(), ]+");
        int[] n = new int[parts.length - 1];
        for (int i = 0; i < n.length; i++) {
            n[i] = Integer.parseInt(parts[i + 1]);
        }
        return switch (parts[0]) {
            case "thing" -> x.thing();
            case "list" -> x.list(n[0], n[1], n[2]);
            case "mark" -> x.mark(n[0], n[1], n[2]);
            case "unmark" -> x.unmark(n[0], n[1]);
            case "weigh" -> x.weigh(n[0], n[1]);
            case "rule" -> x.rule(n[0]);
            case "about" -> x.about(n[0], n[1]);
            case "row" -> x.row(n[0], n[1]);
            case "place" -> x.place(n[0], n[1], n[2]);
            case "total" -> x.total(n[0]);
            case "best" -> x.best(n[0]);
            case "begin" -> x.begin(n[0], n[1], n[2]);
            case "round" -> x.round();
            case "finish" -> x.finish();
            case "reader" -> x.reader(n[0]);
            case "depth" -> x.depth(n[0], n[1]);
            case "known" -> x.known(n[0], n[1]);
            case "bound" -> x.bound(n[0], n[1]);
            case "ahead" -> x.ahead(n[0], n[1]);
            case "found" -> x.found(n[0]);
            case "enough" -> x.enough(n[0], n[1], n[2], n[3], n[4]);
            case "least" -> x.least(n[0]);
            case "leastDepth" -> x.leastDepth(n[0]);
            case "count" -> x.count(n[0]);
            default -> throw new IllegalArgumentException(told);
        };
    }
}
