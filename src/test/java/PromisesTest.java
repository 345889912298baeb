/** Each promise of the document by runs whose answers were worked out by hand. */
public final class PromisesTest {
    private static final int NONE = -1, BAD = -2, STATE = -3, FULL = -4;
    private static final int LEAST_INT = Integer.MIN_VALUE, MOST_INT = Integer.MAX_VALUE;
    private static final Checks checks = new Checks("PromisesTest");

    public static void main(String[] args) {
        promise1NewObject();
        promise2Thing();
        promise3List();
        promise4Mark();
        promise5Unmark();
        promise6Weigh();
        promise7Rule();
        promise8About();
        promise9Row();
        promise10Place();
        promise11Total();
        promise12Best();
        promise13Begin();
        promise14Round();
        promise15Finish();
        promise16Reader();
        promise17Depth();
        promise18Known();
        promise19Bound();
        promise20Ahead();
        promise21Found();
        promise22Enough();
        promise23Least();
        promise24LeastDepth();
        promise25Count();
        whatEndsTheReader();
        whatKeepsTheReader();
        allAtTheirMost();
        checks.end();
    }

    private static void due(String call, long got, long want) {
        checks.due(call, got, want);
    }

    private static JudgesLists withThings(int many) {
        JudgesLists x = new JudgesLists();
        for (int i = 0; i < many; i++) {
            x.thing();
        }
        return x;
    }

    /**
     * ROWS: 2 (100), 0 (60), 1 (60), 3 (10); 3 (90), 2 (50), 0 (20); 1 (5). The last LIST has WEIGHT 0.
     * TOTALS: SUM 140, 120, 250, 110; LEAST 20, 0, 50, 10; GREATEST 60, 60, 100, 90.
     */
    private static JudgesLists fourThings() {
        JudgesLists x = withThings(4);
        x.list(2, 3, 5);
        x.list(1, 4, 7);
        x.list(0, 2, 1);
        x.mark(0, 1, 60);
        x.mark(0, 0, 60);
        x.mark(0, 3, 10);
        x.mark(0, 2, 100);
        x.mark(1, 0, 20);
        x.mark(1, 2, 50);
        x.mark(1, 3, 90);
        x.mark(2, 1, 5);
        return x;
    }

    /** Two LISTS that judge five THINGS in opposite orders, 50 down to 46: each TOTAL is 96. */
    private static JudgesLists oppositeJudges() {
        JudgesLists x = withThings(5);
        x.list(1, 1, 1);
        x.list(1, 1, 1);
        for (int i = 0; i < 5; i++) {
            x.mark(0, i, 50 - i);
            x.mark(1, 4 - i, 50 - i);
        }
        return x;
    }

    private static void promise1NewObject() {
        JudgesLists x = new JudgesLists();
        for (int what = 0; what <= 4; what++) {
            due("new: count(" + what + ")", x.count(what), 0);
        }
        due("new: total(0)", x.total(0), NONE);
        due("new: best(0)", x.best(0), NONE);
        due("new: about(0, 0)", x.about(0, 0), NONE);
        due("new: reader(0)", x.reader(0), NONE);
        due("new: begin(0, 1, 0)", x.begin(0, 1, 0), BAD);
        due("new: leastDepth(0)", x.leastDepth(0), 0);
    }

    private static void promise2Thing() {
        JudgesLists x = new JudgesLists();
        for (int i = 0; i < 20; i++) {
            due("thing()", x.thing(), i);
        }
        x.begin(0, 1, 0);
        due("thing() of 20", x.thing(), FULL);
        due("count(0) of 20", x.count(0), 20);
        due("FULL keeps the READER", x.count(4), 1);
        x.list(1, 1, 1);
        due("a new THING has no MARK", x.place(0, 19, 1), NONE);
    }

    private static void promise3List() {
        JudgesLists x = new JudgesLists();
        int[][] bad = {{-1, 1, 0}, {11, 1, 0}, {0, 0, 0}, {0, 101, 0}, {0, 1, -1}, {0, 1, 101},
            {LEAST_INT, 1, 1}, {MOST_INT, 1, 1}, {1, LEAST_INT, 1}, {1, MOST_INT, 1}, {1, 1, LEAST_INT}, {1, 1, MOST_INT}};
        for (int[] b : bad) {
            due("list with a bad number", x.list(b[0], b[1], b[2]), BAD);
        }
        due("count(1) behind bad ones", x.count(1), 0);
        due("list(0, 1, 0)", x.list(0, 1, 0), 0);
        due("list(10, 100, 100)", x.list(10, 100, 100), 1);
        due("list(5, 50, 1)", x.list(5, 50, 1), 2);
        due("list(1, 1, 1)", x.list(1, 1, 1), 3);
        due("a new LIST has no MARKS", x.about(3, 3), 0);
        due("list(1, 1, 1) of 4", x.list(1, 1, 1), FULL);
        due("BAD is told ahead of FULL", x.list(11, 1, 1), BAD);
        due("count(1) of 4", x.count(1), 4);
    }

    private static void promise4Mark() {
        JudgesLists x = withThings(2);
        x.list(1, 1, 1);
        due("mark(0, 1, 1)", x.mark(0, 1, 1), 0);
        due("mark(0, 1, 1000)", x.mark(0, 1, 1000), 1);
        due("mark(0, 1, 7)", x.mark(0, 1, 7), 1000);
        due("count(2)", x.count(2), 1);
        due("place(0, 1, 1)", x.place(0, 1, 1), 7);
        due("mark of 0", x.mark(0, 1, 0), BAD);
        due("mark of 1001", x.mark(0, 1, 1001), BAD);
        due("mark of the least int", x.mark(0, 1, LEAST_INT), BAD);
        due("mark of the most int", x.mark(0, 1, MOST_INT), BAD);
        due("mark in no LIST", x.mark(1, 1, 5), NONE);
        due("mark in LIST -1", x.mark(-1, 1, 5), NONE);
        due("mark of no THING", x.mark(0, 2, 5), NONE);
        due("mark of THING -1", x.mark(0, -1, 5), NONE);
        due("NONE is told ahead of BAD", x.mark(0, 2, 0), NONE);
        due("a refused mark changes nothing", x.place(0, 1, 1), 7);
    }

    private static void promise5Unmark() {
        JudgesLists x = fourThings();
        due("unmark(0, 0)", x.unmark(0, 0), 60);
        due("unmark(0, 0) again", x.unmark(0, 0), 0);
        due("count(2) behind unmark", x.count(2), 7);
        due("about(0, 3) behind unmark", x.about(0, 3), 3);
        due("row(0, 1) behind unmark", x.row(0, 1), 1);
        due("place(0, 3, 0) behind unmark", x.place(0, 3, 0), 2);
        due("total(0) behind unmark", x.total(0), 20);
        due("unmark(3, 0)", x.unmark(3, 0), NONE);
        due("unmark(-1, 0)", x.unmark(-1, 0), NONE);
        due("unmark(0, 4)", x.unmark(0, 4), NONE);
        due("unmark(0, -1)", x.unmark(0, -1), NONE);
    }

    private static void promise6Weigh() {
        JudgesLists x = fourThings();
        due("weigh(0, 10)", x.weigh(0, 10), 2);
        due("weigh(0, 0)", x.weigh(0, 0), 10);
        due("total(2) with WEIGHT 0", x.total(2), 50);
        due("weigh(0, 3)", x.weigh(0, 3), 0);
        due("total(2) with WEIGHT 3", x.total(2), 350);
        due("weigh(0, -1)", x.weigh(0, -1), BAD);
        due("weigh(0, 11)", x.weigh(0, 11), BAD);
        due("weigh(3, 1)", x.weigh(3, 1), NONE);
        due("NONE ahead of BAD", x.weigh(-1, 11), NONE);
        due("a refused weigh changes nothing", x.about(0, 0), 3);
    }

    private static void promise7Rule() {
        JudgesLists x = new JudgesLists();
        due("rule(2)", x.rule(2), 0);
        due("rule(1)", x.rule(1), 2);
        due("rule(3)", x.rule(3), BAD);
        due("rule(-1)", x.rule(-1), BAD);
        due("rule(0)", x.rule(0), 1);
    }

    private static void promise8About() {
        JudgesLists x = fourThings();
        int[][] want = {{2, 3, 5, 4}, {1, 4, 7, 3}, {0, 2, 1, 1}};
        for (int list = 0; list < 3; list++) {
            for (int what = 0; what < 4; what++) {
                due("about(" + list + ", " + what + ")", x.about(list, what), want[list][what]);
            }
        }
        due("about(0, 4)", x.about(0, 4), NONE);
        due("about(0, -1)", x.about(0, -1), NONE);
        due("about(3, 0)", x.about(3, 0), NONE);
        due("about(-1, 0)", x.about(-1, 0), NONE);
    }

    private static void promise9Row() {
        JudgesLists x = fourThings();
        int[] want = {2, 0, 1, 3};
        for (int place = 0; place < 4; place++) {
            due("row(0, " + place + ")", x.row(0, place), want[place]);
        }
        due("row(0, 4)", x.row(0, 4), NONE);
        due("row(1, 3)", x.row(1, 3), NONE);
        due("row(0, -1)", x.row(0, -1), NONE);
        due("row(3, 0)", x.row(3, 0), NONE);
        due("row(-1, 0)", x.row(-1, 0), NONE);
        x.mark(0, 3, 61);
        due("row(0, 1) behind a greater MARK", x.row(0, 1), 3);
        due("row(0, 3) behind a greater MARK", x.row(0, 3), 1);
        JudgesLists full = withThings(20);
        full.list(1, 1, 1);
        for (int thing = 0; thing < 20; thing++) {
            full.mark(0, thing, thing < 10 ? 1 : 1000);
        }
        due("row of 20: 0", full.row(0, 0), 10);
        due("row of 20: 9", full.row(0, 9), 19);
        due("row of 20: 10", full.row(0, 10), 0);
        due("row of 20: 19", full.row(0, 19), 9);
        due("row of 20: 20", full.row(0, 20), NONE);
    }

    private static void promise10Place() {
        JudgesLists x = fourThings();
        due("place(0, 1, 0)", x.place(0, 1, 0), 2);
        due("place(0, 1, 1)", x.place(0, 1, 1), 60);
        due("place(1, 3, 0)", x.place(1, 3, 0), 0);
        due("place(1, 1, 0) without MARK", x.place(1, 1, 0), NONE);
        due("place(1, 1, 1) without MARK", x.place(1, 1, 1), NONE);
        due("place(0, 1, 2)", x.place(0, 1, 2), NONE);
        due("place(0, 1, -1)", x.place(0, 1, -1), NONE);
        due("place(0, 4, 0)", x.place(0, 4, 0), NONE);
        due("place(0, -1, 0)", x.place(0, -1, 0), NONE);
        due("place(3, 0, 0)", x.place(3, 0, 0), NONE);
        due("place(-1, 0, 0)", x.place(-1, 0, 0), NONE);
    }

    private static void promise11Total() {
        JudgesLists x = fourThings();
        int[][] want = {{140, 120, 250, 110}, {20, 0, 50, 10}, {60, 60, 100, 90}};
        for (int rule = 0; rule < 3; rule++) {
            x.rule(rule);
            for (int thing = 0; thing < 4; thing++) {
                due("total(" + thing + ") by rule " + rule, x.total(thing), want[rule][thing]);
            }
        }
        due("total(4)", x.total(4), NONE);
        due("total(-1)", x.total(-1), NONE);
        x.weigh(0, 0);
        x.weigh(1, 0);
        for (int rule = 0; rule < 3; rule++) {
            x.rule(rule);
            due("total(1) with WEIGHTS 0 by rule " + rule, x.total(1), 0);
        }
        JudgesLists most = withThings(1);
        for (int list = 0; list < 4; list++) {
            most.list(10, 100, 100);
            most.mark(list, 0, 1000);
        }
        due("the greatest TOTAL", most.total(0), 40000);
    }

    private static void promise12Best() {
        JudgesLists x = fourThings();
        int[][] want = {{2, 0, 1, 3}, {2, 0, 3, 1}, {2, 3, 0, 1}};
        for (int rule = 0; rule < 3; rule++) {
            x.rule(rule);
            for (int i = 0; i < 4; i++) {
                due("best(" + i + ") by rule " + rule, x.best(i), want[rule][i]);
            }
        }
        due("best(4)", x.best(4), NONE);
        due("best(-1)", x.best(-1), NONE);
        due("alike ones by numbers", oppositeJudges().best(3), 3);
    }

    private static void promise13Begin() {
        JudgesLists x = fourThings();
        due("begin(0, 1, 0)", x.begin(0, 1, 0), 0);
        x.round();
        int[][] bad = {{0, 0, 0}, {0, 5, 0}, {0, -1, 0}, {-1, 1, 0}, {3, 1, 0}, {3, 1, 1}, {0, 1, 1}, {1, 1, 1}, {1, 1, -1},
            {2, 1, 0}, {2, 1, 11}, {2, 1, -1}, {2, 5, 1}, {LEAST_INT, 1, 0}, {0, MOST_INT, 0}, {2, 1, MOST_INT}};
        for (int[] b : bad) {
            due("begin(" + b[0] + ", " + b[1] + ", " + b[2] + ")", x.begin(b[0], b[1], b[2]), BAD);
        }
        due("a refused begin keeps the READER", x.reader(3), 3);
        due("begin(2, 1, 10)", x.begin(2, 1, 10), 0);
        due("another one begins anew", x.reader(3), 0);
        due("its COST, too", x.reader(5), 0);
        due("its ROUNDS, too", x.reader(2), 0);
        due("begin(2, 4, 1): all THINGS", x.begin(2, 4, 1), 1);
        due("begin(1, 3, 0)", x.begin(1, 3, 0), 0);
        JudgesLists bare = withThings(3);
        due("no LISTS: SURE at once", bare.begin(0, 1, 0), 1);
        due("its FOUND", bare.found(0), 0);
        bare.list(1, 1, 0);
        due("an empty ROW: SURE at once", bare.begin(1, 2, 0), 1);
        bare.mark(0, 2, 5);
        due("a ROW that is not empty: not yet", bare.begin(1, 2, 0), 0);
        bare.weigh(0, 0);
        due("WEIGHT 0: SURE at once", bare.begin(1, 2, 0), 1);
    }

    private static void promise14Round() {
        JudgesLists x = fourThings();
        due("round() without READER", x.round(), NONE);
        x.begin(0, 1, 0);
        due("first round()", x.round(), 0);
        due("COST of the first", x.reader(5), 9);
        due("second round()", x.round(), 1);
        due("COST of both", x.reader(5), 16);
        due("round() when DONE", x.round(), STATE);
        due("ROUNDS stay", x.reader(2), 2);
        x.begin(1, 1, 0);
        due("THRESHOLD: first round()", x.round(), 0);
        due("THRESHOLD: COST", x.reader(5), 35);
        due("THRESHOLD: looked UP", x.reader(4), 6);
        due("THRESHOLD: second round()", x.round(), 1);
        due("THRESHOLD: stops behind the place", x.reader(4), 6);
        due("THRESHOLD: stops ahead of the next LIST", x.depth(1, 0), 1);
        due("THRESHOLD: COST at the end", x.reader(5), 38);
        x.begin(2, 1, 1);
        due("MIXED: first round()", x.round(), 0);
        due("MIXED: the least of alike ones is looked UP", x.known(1, 1), 1);
        due("MIXED: no other one", x.known(1, 2), 0);
        due("MIXED: COST", x.reader(5), 21);
        mixedStopsBehindALookUp();
        mixedTakesTheGreatestHigh();
        noLookingUpWithoutUp();
    }

    private static void mixedStopsBehindALookUp() {
        JudgesLists x = withThings(2);
        x.list(1, 1, 1);
        x.list(1, 1, 3);
        x.list(0, 1, 5);
        x.mark(0, 0, 900);
        x.mark(0, 1, 20);
        x.mark(1, 0, 1);
        x.mark(1, 1, 1000);
        x.mark(2, 0, 1);
        x.mark(2, 1, 2);
        due("begin(2, 1, 1)", x.begin(2, 1, 1), 0);
        // Both have HIGH 1900; in LIST 1 THING 0 shows 901 in all, and THING 1 has 1000 for sure.
        due("SURE by looking UP", x.round(), 1);
        due("places ahead of it", x.reader(3), 3);
        due("it stops behind the first of two", x.reader(4), 1);
        due("the second one is not KNOWN", x.known(2, 0), 0);
        due("COST with UP 3", x.reader(5), 6);
        due("FOUND without its own MARK", x.found(0), 1);
    }

    private static void mixedTakesTheGreatestHigh() {
        JudgesLists x = withThings(3);
        int[][] marks = {{450, 100, 500}, {400, 300, 50}};
        for (int list = 0; list < 2; list++) {
            x.list(1, 1, 1);
            for (int thing = 0; thing < 3; thing++) {
                x.mark(list, thing, marks[list][thing]);
            }
        }
        x.begin(2, 2, 2);
        due("h 2: first round()", x.round(), 0);
        due("h 2: not looked UP in the first", x.reader(4), 0);
        due("h 2: second round()", x.round(), 0);
        // HIGH 850, 750, 800, and all of THING 0 is KNOWN.
        due("h 2: looked UP in the second", x.reader(4), 1);
        due("h 2: THING 2 is looked UP", x.known(1, 2), 1);
        due("h 2: THING 1 is not", x.known(0, 1), 0);
        due("h 2: COST", x.reader(5), 5);
        due("h 2: third round()", x.round(), 1);
        due("h 2: places", x.reader(3), 5);
        due("h 2: found(1)", x.found(1), 2);
    }

    /** The first LIST has UP 0: what it says of THING 1 is seen at its place only. */
    private static void noLookingUpWithoutUp() {
        JudgesLists x = withThings(2);
        x.list(1, 1, 0);
        x.list(1, 1, 2);
        x.mark(0, 0, 10);
        x.mark(0, 1, 5);
        x.mark(1, 0, 1);
        x.mark(1, 1, 8);
        for (int kind = 1; kind <= 2; kind++) {
            String of = "UP 0, KIND " + kind + ": ";
            x.begin(kind, 1, kind - 1);
            due(of + "round()", x.round(), 0);
            due(of + "looked UP", x.reader(4), 1);
            due(of + "COST", x.reader(5), 4);
            due(of + "known(0, 1)", x.known(0, 1), 0);
            due(of + "known(1, 0)", x.known(1, 0), 1);
            due(of + "finish()", x.finish(), 1);
            due(of + "COST at the end", x.reader(5), 5);
            due(of + "found(0)", x.found(0), 1);
        }
    }

    private static void promise15Finish() {
        JudgesLists x = fourThings();
        due("finish() without READER", x.finish(), NONE);
        x.begin(0, 1, 0);
        due("finish()", x.finish(), 2);
        due("finish() when DONE", x.finish(), STATE);
        x.begin(0, 1, 0);
        x.round();
        due("finish() behind one round()", x.finish(), 1);
        due("ROUNDS of both", x.reader(2), 2);
        JudgesLists y = oppositeJudges();
        int[][] want = {{0, 0, 5, 10, 0, 10}, {2, 2, 4, 8, 2, 10}, {2, 3, 5, 9, 1, 10}};
        for (int[] w : want) {
            String which = "KIND " + w[0] + ", h " + w[1] + ": ";
            due(which + "begin", y.begin(w[0], 2, w[1]), 0);
            due(which + "ROUNDS", y.finish(), w[2]);
            due(which + "places", y.reader(3), w[3]);
            due(which + "looked UP", y.reader(4), w[4]);
            due(which + "COST", y.reader(5), w[5]);
            due(which + "found(1)", y.found(1), 1);
        }
        // THING 0 is the last one by the second LIST, and of alike numbers it would be the first.
        JudgesLists longest = withThings(20);
        longest.list(1, 1, 0);
        longest.list(1, 1, 0);
        for (int thing = 0; thing < 20; thing++) {
            longest.mark(0, thing, 1);
            longest.mark(1, thing, thing + 1);
        }
        longest.begin(0, 19, 0);
        due("20 ROUNDS", longest.finish(), 20);
        due("all but THING 0", longest.found(0), 1);
    }

    private static void promise16Reader() {
        JudgesLists x = fourThings();
        due("reader(0) without READER", x.reader(0), NONE);
        x.begin(1, 1, 0);
        dueReader(x, 1, 1, 0, 0, 0, 0, 0, 0);
        x.round();
        dueReader(x, 1, 1, 1, 3, 6, 35, 0, 3);
        x.finish();
        dueReader(x, 1, 1, 2, 4, 6, 38, 1, 4);
        x.begin(2, 2, 5);
        dueReader(x, 2, 2, 0, 0, 0, 0, 0, 0);
        due("reader(8)", x.reader(8), NONE);
        due("reader(-1)", x.reader(-1), NONE);
    }

    private static void dueReader(JudgesLists x, int... want) {
        for (int what = 0; what < want.length; what++) {
            due("reader(" + what + ")", x.reader(what), want[what]);
        }
    }

    private static void promise17Depth() {
        JudgesLists x = fourThings();
        due("depth(0, 0) without READER", x.depth(0, 0), NONE);
        x.begin(0, 1, 0);
        due("DEPTH at first", x.depth(0, 0), 0);
        due("TOP at first", x.depth(0, 1), 1000);
        x.finish();
        due("depth(0, 0)", x.depth(0, 0), 2);
        due("depth(0, 1)", x.depth(0, 1), 60);
        due("depth(1, 0)", x.depth(1, 0), 2);
        due("depth(1, 1)", x.depth(1, 1), 50);
        due("depth(2, 0)", x.depth(2, 0), 1);
        due("TOP of a whole ROW", x.depth(2, 1), 0);
        due("depth(0, 2)", x.depth(0, 2), NONE);
        due("depth(0, -1)", x.depth(0, -1), NONE);
        due("depth(3, 0)", x.depth(3, 0), NONE);
        due("depth(-1, 0)", x.depth(-1, 0), NONE);
        x.list(1, 1, 1);
        x.begin(0, 1, 0);
        due("TOP of an empty ROW", x.depth(3, 1), 0);
    }

    private static void promise18Known() {
        JudgesLists x = fourThings();
        due("known(0, 0) without READER", x.known(0, 0), NONE);
        x.begin(1, 1, 0);
        due("known(0, 2) at first", x.known(0, 2), 0);
        x.round();
        int[][] want = {{0, 1, 1, 1}, {0, 1, 1, 1}, {1, 1, 1, 1}};
        for (int list = 0; list < 3; list++) {
            for (int thing = 0; thing < 4; thing++) {
                due("known(" + list + ", " + thing + ")", x.known(list, thing), want[list][thing]);
            }
        }
        due("known(3, 0)", x.known(3, 0), NONE);
        due("known(-1, 0)", x.known(-1, 0), NONE);
        due("known(0, 4)", x.known(0, 4), NONE);
        due("known(0, -1)", x.known(0, -1), NONE);
        x.list(1, 1, 1);
        x.begin(0, 1, 0);
        due("known in an empty ROW", x.known(3, 0), 1);
    }

    private static void promise19Bound() {
        JudgesLists x = fourThings();
        due("bound(0, 0) without READER", x.bound(0, 0), NONE);
        due("NONE ahead of BAD without READER", x.bound(0, 2), NONE);
        int[][][] want = {
            {{0, 0, 200, 90}, {290, 290, 290, 290}},
            {{0, 0, 0, 0}, {90, 90, 90, 90}},
            {{0, 0, 100, 90}, {100, 100, 100, 100}}};
        for (int rule = 0; rule < 3; rule++) {
            x.rule(rule);
            x.begin(0, 1, 0);
            x.round();
            for (int thing = 0; thing < 4; thing++) {
                due("LOW of " + thing + " by rule " + rule, x.bound(thing, 0), want[rule][0][thing]);
                due("HIGH of " + thing + " by rule " + rule, x.bound(thing, 1), want[rule][1][thing]);
            }
        }
        due("bound(0, 2)", x.bound(0, 2), BAD);
        due("bound(0, -1)", x.bound(0, -1), BAD);
        due("bound(4, 0)", x.bound(4, 0), NONE);
        due("bound(-1, 2)", x.bound(-1, 2), NONE);
    }

    private static void promise20Ahead() {
        JudgesLists x = fourThings();
        due("ahead(2, 0) without READER", x.ahead(2, 0), NONE);
        due("ahead(0, 0) without READER", x.ahead(0, 0), NONE);
        x.begin(0, 1, 0);
        due("ahead(2, 0) at first", x.ahead(2, 0), 0);
        x.finish();
        due("ahead(2, 0)", x.ahead(2, 0), 1);
        due("ahead(2, 3)", x.ahead(2, 3), 1);
        due("ahead(0, 2)", x.ahead(0, 2), 0);
        due("ahead(0, 1)", x.ahead(0, 1), 0);
        due("ahead(1, 1)", x.ahead(1, 1), BAD);
        due("ahead(4, 4)", x.ahead(4, 4), NONE);
        due("ahead(0, 4)", x.ahead(0, 4), NONE);
        due("ahead(-1, 0)", x.ahead(-1, 0), NONE);
        JudgesLists alike = oppositeJudges();
        alike.begin(0, 2, 0);
        alike.finish();
        due("alike, the less number", alike.ahead(1, 3), 1);
        due("alike, the greater number", alike.ahead(3, 1), 0);
    }

    private static void promise21Found() {
        JudgesLists x = fourThings();
        due("found(0) without READER", x.found(0), NONE);
        x.begin(0, 2, 0);
        due("found(0) not DONE", x.found(0), STATE);
        due("found(1) not DONE", x.found(1), STATE);
        due("NONE ahead of STATE", x.found(2), NONE);
        x.finish();
        due("found(0), by numbers", x.found(0), 0);
        due("found(1), by numbers", x.found(1), 2);
        due("found(2)", x.found(2), NONE);
        due("found(-1)", x.found(-1), NONE);
        x.begin(0, 4, 0);
        for (int i = 0; i < 4; i++) {
            due("found(" + i + ") of all", x.found(i), i);
        }
    }

    private static void promise22Enough() {
        JudgesLists x = fourThings();
        due("enough(1, 2, 2, 0)", x.enough(1, 2, 2, 0, 0), 1);
        due("enough(1, 1, 2, 0): alike, the greater number", x.enough(1, 1, 2, 0, 0), 0);
        due("enough(1, 2, 1, 1)", x.enough(1, 2, 1, 1, 0), 0);
        due("enough(4, 0, 0, 0)", x.enough(4, 0, 0, 0, 0), 1);
        due("all places", x.enough(2, 4, 3, 1, 0), 1);
        int[][] bad = {{0, 0, 0, 0, 0}, {5, 0, 0, 0, 0}, {-1, 0, 0, 0, 0}, {1, 5, 0, 0, 0}, {1, -1, 0, 0, 0}, {1, 0, 4, 0, 0},
            {1, 0, -1, 0, 0}, {1, 0, 0, 2, 0}, {1, 0, 0, -1, 0}, {1, 0, 0, 0, 1}, {1, 0, 0, 0, -1}, {1, MOST_INT, 0, 0, 0}};
        for (int[] b : bad) {
            due("enough with a bad number", x.enough(b[0], b[1], b[2], b[3], b[4]), BAD);
        }
        x.begin(1, 1, 0);
        x.round();
        due("what a READER looked UP is not used", x.enough(1, 2, 1, 1, 0), 0);
        due("the READER stays as it was", x.depth(0, 0), 1);
        eachDepthCounts();
        due("no LISTS", withThings(2).enough(1, 0, 0, 0, 0), 1);
        due("no LISTS, a DEPTH", withThings(2).enough(1, 1, 0, 0, 0), BAD);
        due("no THINGS", new JudgesLists().enough(1, 0, 0, 0, 0), BAD);
    }

    /** By GREATEST each of four LISTS alone shows THING 0 with 1000. */
    private static void eachDepthCounts() {
        JudgesLists x = withThings(2);
        x.rule(2);
        for (int list = 0; list < 4; list++) {
            x.list(1, 1, 0);
            x.mark(list, 0, 1000);
        }
        due("enough(1, 1, 0, 0, 0)", x.enough(1, 1, 0, 0, 0), 1);
        due("enough(1, 0, 1, 0, 0)", x.enough(1, 0, 1, 0, 0), 1);
        due("enough(1, 0, 0, 1, 0)", x.enough(1, 0, 0, 1, 0), 1);
        due("enough(1, 0, 0, 0, 1)", x.enough(1, 0, 0, 0, 1), 1);
        due("enough(1, 0, 0, 0, 0)", x.enough(1, 0, 0, 0, 0), 0);
    }

    private static void promise23Least() {
        JudgesLists x = fourThings();
        due("least(1)", x.least(1), 14);
        due("least(4)", x.least(4), 0);
        due("least(0)", x.least(0), BAD);
        due("least(5)", x.least(5), BAD);
        due("least(-1)", x.least(-1), BAD);
        due("no THINGS", new JudgesLists().least(1), BAD);
        due("no LISTS", withThings(2).least(1), 0);
        JudgesLists many = withThings(20);
        int[] lengths = {19, 4, 4};
        for (int list = 0; list < 3; list++) {
            many.list(1, 1, 1);
            for (int thing = 0; thing < lengths[list]; thing++) {
                many.mark(list, thing, 10);
            }
        }
        due("500 rows of DEPTHS", many.least(20), 0);
        many.mark(0, 19, 10);
        due("525 rows of DEPTHS", many.least(20), STATE);
        due("BAD ahead of STATE", many.least(21), BAD);
        many.unmark(0, 19);
        many.list(1, 1, 1);
        due("an empty ROW more", many.least(20), 0);
        many.mark(3, 0, 1);
        due("1000 rows of DEPTHS", many.least(20), STATE);
    }

    /** By GREATEST each LIST alone shows THING 0 with 1000, which no other one can go above. */
    private static JudgesLists eitherListDoes(int down0, int down1) {
        JudgesLists x = withThings(2);
        x.rule(2);
        x.list(1, down0, 0);
        x.list(1, down1, 0);
        x.mark(0, 0, 1000);
        x.mark(1, 0, 1000);
        return x;
    }

    private static void promise24LeastDepth() {
        JudgesLists x = fourThings();
        for (int list = 0; list < 4; list++) {
            due("leastDepth ahead of any", x.leastDepth(list), 0);
        }
        due("leastDepth(4)", x.leastDepth(4), NONE);
        due("leastDepth(-1)", x.leastDepth(-1), NONE);
        x.least(1);
        dueDepths(x, 2, 2, 0, 0);
        x.least(0);
        x.enough(1, 1, 1, 1, 0);
        x.mark(0, 0, 1);
        dueDepths(x, 2, 2, 0, 0);
        x.least(4);
        dueDepths(x, 0, 0, 0, 0);
        JudgesLists alike = eitherListDoes(3, 3);
        alike.enough(1, 1, 0, 0, 0);
        due("alike COSTS", alike.least(1), 3);
        dueDepths(alike, 0, 1, 0, 0);
        JudgesLists cheaper = eitherListDoes(2, 3);
        due("the cheaper LIST", cheaper.least(1), 2);
        dueDepths(cheaper, 1, 0, 0, 0);
    }

    private static void dueDepths(JudgesLists x, int... want) {
        for (int list = 0; list < want.length; list++) {
            due("leastDepth(" + list + ")", x.leastDepth(list), want[list]);
        }
    }

    private static void promise25Count() {
        JudgesLists x = fourThings();
        x.rule(2);
        x.begin(0, 1, 0);
        int[] want = {4, 3, 8, 2, 1};
        for (int what = 0; what < want.length; what++) {
            due("count(" + what + ")", x.count(what), want[what]);
        }
        due("count(5)", x.count(5), NONE);
        due("count(-1)", x.count(-1), NONE);
    }

    private static void whatEndsTheReader() {
        for (int change = 0; change < 7; change++) {
            JudgesLists x = fourThings();
            x.begin(0, 4, 0);
            switch (change) {
                case 0 -> x.thing();
                case 1 -> x.list(1, 1, 1);
                case 2 -> x.mark(2, 0, 5);
                case 3 -> x.mark(0, 0, 61);
                case 4 -> x.unmark(0, 0);
                case 5 -> x.weigh(0, 3);
                default -> x.rule(1);
            }
            String behind = " behind change " + change;
            due("count(4)" + behind, x.count(4), 0);
            due("reader(5)" + behind, x.reader(5), NONE);
            due("found(0)" + behind, x.found(0), NONE);
            due("round()" + behind, x.round(), NONE);
            due("finish()" + behind, x.finish(), NONE);
            due("depth(0, 0)" + behind, x.depth(0, 0), NONE);
            due("known(0, 0)" + behind, x.known(0, 0), NONE);
            due("bound(0, 0)" + behind, x.bound(0, 0), NONE);
            due("ahead(0, 1)" + behind, x.ahead(0, 1), NONE);
        }
    }

    private static void whatKeepsTheReader() {
        JudgesLists x = fourThings();
        x.begin(0, 1, 0);
        x.round();
        x.unmark(1, 1);
        due("unmark of none keeps the READER", x.reader(3), 3);
        x.mark(0, 0, 60);
        due("the same MARK keeps the READER", x.reader(3), 3);
        x.weigh(0, 2);
        due("the same WEIGHT keeps the READER", x.reader(3), 3);
        x.rule(0);
        due("the same RULE keeps the READER", x.reader(3), 3);
        x.mark(0, 0, 0);
        x.mark(3, 0, 1);
        x.unmark(0, 4);
        x.weigh(0, 11);
        x.rule(3);
        x.list(1, 0, 0);
        x.begin(0, 0, 0);
        due("refused calls keep the READER", x.reader(3), 3);
        x.least(1);
        x.enough(1, 4, 3, 1, 0);
        x.total(0);
        x.best(0);
        due("questions keep the READER", x.reader(3), 3);
        due("and it works on", x.round(), 1);
    }

    /** 20 THINGS in 4 LISTS that say the same, 1000, 990, .. 810, with all WEIGHTS and PRICES at their most. */
    private static void allAtTheirMost() {
        JudgesLists x = withThings(20);
        for (int list = 0; list < 4; list++) {
            x.list(10, 100, 100);
            for (int thing = 0; thing < 20; thing++) {
                x.mark(list, thing, 1000 - 10 * thing);
            }
        }
        due("most: count(2)", x.count(2), 80);
        due("most: total(19)", x.total(19), 32400);
        due("most: best(19)", x.best(19), 19);
        due("most: least(1)", x.least(1), STATE);
        due("most: enough(1, 1, 1, 1, 1)", x.enough(1, 1, 1, 1, 1), 1);
        due("most: enough(19, 20, 20, 20, 20)", x.enough(19, 20, 20, 20, 20), 1);
        due("most: enough(1, 20, 20, 20, 21)", x.enough(1, 20, 20, 20, 21), BAD);
        // KIND, k, h; then ROUNDS, places, looked UP, COST, THINGS.
        int[][] readers = {{0, 1, 0, 1, 4, 0, 400, 1}, {1, 1, 0, 1, 1, 3, 400, 1},
            {0, 19, 0, 19, 76, 0, 7600, 19}, {2, 19, 10, 19, 76, 0, 7600, 19}};
        for (int[] r : readers) {
            String of = "most, KIND " + r[0] + ", k " + r[1] + ": ";
            due(of + "begin", x.begin(r[0], r[1], r[2]), 0);
            due(of + "HIGH", x.bound(19, 1), 40000);
            due(of + "finish()", x.finish(), r[3]);
            due(of + "places", x.reader(3), r[4]);
            due(of + "looked UP", x.reader(4), r[5]);
            due(of + "COST", x.reader(5), r[6]);
            due(of + "THINGS", x.reader(7), r[7]);
            due(of + "the last one FOUND", x.found(r[1] - 1), r[1] - 1);
        }
        due("most: begin(2, 20, 10)", x.begin(2, 20, 10), 1);
    }
}
