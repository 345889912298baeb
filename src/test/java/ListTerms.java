/** The Terms of part 1: THINGS, LISTS, MARKS, ROWS, THE RULE, THE BEST. */
final class ListTerms {
    private static final int NONE = World.NONE, BAD = World.BAD, FULL = World.FULL;
    private final Sentences s;

    ListTerms(Sentences s) {
        this.s = s;
    }

    void tell() {
        s.section("What it is");
        s.says("The best of all by many judges, found by reading lists from the top only as far as needed: readers that "
            + "look down the lists, look things up, or both by turns; bounds by what was seen, answers that are sure, "
            + "costs, the least depths that could make it sure; lists whose marks change meanwhile.");
        s.holds("An object is used for at most 512 calls after it has been made; what later calls answer is free.",
            this::calls512);
        s.section("Terms");
        s.holds("THINGS are numbered from 0 on, 20 at most;", this::things);
        s.holds("LISTS from 0 on, 4 at most,", this::lists);
        s.holds("each with a WEIGHT 0 .. 10,", this::weights);
        s.holds("a PRICE of looking down it (DOWN, 1 .. 100),", this::downs);
        s.holds("and one of looking up in it (UP, 1 .. 100;", this::ups);
        s.holds("0: there is no looking up).", this::noLookingUp);
        s.holds("A THING may have a MARK, 1 .. 1000, in a LIST.", this::marks);
        s.holds("The ROW of a LIST are the THINGS with MARKS in it,", this::rowsHoldMarked);
        s.holds("by MARKS from the greatest on,", this::rowsByMarks);
        s.holds("alike ones by numbers;", this::rowsAlike);
        s.holds("its places are 0, 1, ..", this::places);
        s.says("THE RULE:");
        s.holds("0 SUM: of a THING the sum, over LISTS, of WEIGHT times MARK (0 without);", this::sum);
        s.holds("1 LEAST: the least MARK of all LISTS with WEIGHT above 0", this::least);
        s.holds("(0 if it has none there,", this::leastWithoutMark);
        s.holds("or there is no such LIST);", this::noWeightAbove0);
        s.holds("2 GREATEST: the greatest MARK of these.", this::greatest);
        s.holds("That is its TOTAL.", this::totals);
        s.holds("THE BEST k are the k THINGS with the greatest TOTALS,", this::best);
        s.holds("of alike ones the least numbers, in this order.", this::bestAlike);
    }

    private void calls512() {
        World x = s.world(20);
        for (int list = 0; list < 4; list++) {
            x.run("list(1, 1, 1)");
            for (int thing = 0; thing < 20; thing++) {
                x.run("mark(" + list + ", " + thing + ", " + (thing + 1) + ")");
            }
        }
        for (int calls = 20 + 84; calls < 510; calls += 2) {
            x.run("begin(2, 10, 3)", "finish()");
        }
        x.due("begin(0, 20, 0)", 1);
        x.due("found(19)", 19);
    }

    private void things() {
        World x = s.world(0).due("total(0)", NONE);
        for (int i = 0; i < 20; i++) {
            x.due("thing()", i);
        }
        x.due("total(19)", 0).due("total(20)", NONE);
        x.due("thing()", FULL).due("total(20)", NONE).due("count(0)", 20);
    }

    private void lists() {
        World x = s.world(0).due("about(0, 1)", NONE);
        for (int i = 0; i < 4; i++) {
            x.due("list(1, 1, 1)", i);
        }
        x.due("about(3, 1)", 1).due("about(4, 1)", NONE);
        x.due("list(1, 1, 1)", FULL).due("about(4, 1)", NONE).due("count(1)", 4);
    }

    private void weights() {
        World x = s.world(0).due("list(-1, 1, 1)", BAD).due("list(11, 1, 1)", BAD);
        x.due("list(0, 1, 1)", 0).due("list(10, 1, 1)", 1).each("about(#, 0)", 0, 10, NONE);
        x.due("weigh(0, -1)", BAD).due("weigh(0, 11)", BAD);
        x.due("weigh(0, 10)", 0).due("weigh(0, 0)", 10).due("weigh(0, 5)", 0);
    }

    private void downs() {
        World x = s.world(0).due("list(1, 0, 1)", BAD).due("list(1, 101, 1)", BAD);
        x.due("list(1, 1, 1)", 0).due("list(1, 100, 1)", 1).each("about(#, 1)", 1, 100, NONE);
    }

    private void ups() {
        World x = s.world(0).due("list(1, 1, -1)", BAD).due("list(1, 1, 101)", BAD);
        x.due("list(1, 1, 0)", 0).due("list(1, 1, 1)", 1).due("list(1, 1, 100)", 2);
        x.each("about(#, 2)", 0, 1, 100, NONE);
    }

    /** Of two LISTS the first one has UP 0; then both. */
    private void noLookingUp() {
        World x = s.world(2).judge(1, 1, 0, 10, 5).judge(1, 1, 1, 1, 8);
        for (String begin : new String[] {"begin(1, 1, 0)", "begin(2, 1, 1)"}) {
            x.due(begin, 0).due("round()", 0).due("reader(4)", 1).due("reader(5)", 3);
            x.each("known(0, #)", 1, 0).each("known(1, #)", 1, 1);
        }
        World y = s.world(2).judge(1, 1, 0, 10, 5).judge(1, 1, 0, 1, 8);
        for (String begin : new String[] {"begin(1, 1, 0)", "begin(2, 1, 1)"}) {
            y.due(begin, 0).due("round()", 0).each("known(0, #)", 1, 0).each("known(1, #)", 0, 1);
            // Behind the second place of the first ROW it is 10 and up to 8 more against 13.
            y.due("finish()", 1).due("reader(3)", 4).due("reader(4)", 0).due("reader(5)", 4);
        }
    }

    private void marks() {
        World x = s.world(2).judge(1, 1, 1).judge(1, 1, 1);
        x.due("mark(0, 0, 0)", BAD).due("mark(0, 0, 1001)", BAD).due("count(2)", 0);
        x.due("mark(0, 0, 1)", 0).due("mark(1, 0, 1000)", 0);
        x.due("place(0, 0, 1)", 1).due("place(1, 0, 1)", 1000).due("count(2)", 2);
        x.due("place(0, 1, 1)", NONE).due("place(1, 1, 1)", NONE);
    }

    private void rowsHoldMarked() {
        World x = s.world(3).judge(1, 1, 1).judge(1, 1, 1, 0, 7);
        x.due("about(0, 3)", 0).due("row(0, 0)", NONE);
        x.due("about(1, 3)", 1).each("row(1, #)", 1, NONE);
        x.due("mark(1, 0, 7)", 0).due("mark(1, 2, 7)", 0).due("about(1, 3)", 3).each("row(1, #)", 0, 1, 2, NONE);
        x.due("mark(1, 2, 6)", 7).due("about(1, 3)", 3);
        x.due("unmark(1, 0)", 7).due("about(1, 3)", 2).each("row(1, #)", 1, 2, NONE);
        x.due("unmark(1, 1)", 7).due("unmark(1, 2)", 6).due("about(1, 3)", 0).due("row(1, 0)", NONE);
    }

    private void rowsByMarks() {
        World x = s.world(4).judge(1, 1, 1, 2, 1, 1000, 999).each("row(0, #)", 2, 3, 0, 1, NONE);
        x.due("mark(0, 1, 1000)", 1).each("row(0, #)", 1, 2, 3, 0, NONE);
        x.due("mark(0, 2, 1)", 1000).each("row(0, #)", 1, 3, 0, 2, NONE);
    }

    private void rowsAlike() {
        World x = s.world(20).judge(1, 1, 1);
        for (int thing = 19; thing >= 0; thing--) {
            x.due("mark(0, " + thing + ", 500)", 0);
        }
        for (int place = 0; place < 20; place++) {
            x.due("row(0, " + place + ")", place);
        }
        x.due("mark(0, 19, 501)", 500).due("row(0, 0)", 19).due("row(0, 1)", 0).due("row(0, 19)", 18);
        x.due("mark(0, 19, 500)", 501).due("row(0, 0)", 0).due("row(0, 19)", 19);
    }

    private void places() {
        World x = s.world(20).judge(1, 1, 1).due("row(0, 0)", NONE).due("place(0, 0, 0)", NONE);
        for (int thing = 0; thing < 20; thing++) {
            x.run("mark(0, " + thing + ", " + (thing + 1) + ")");
        }
        x.due("row(0, -1)", NONE).due("row(0, 0)", 19).due("row(0, 19)", 0).due("row(0, 20)", NONE);
        x.due("place(0, 19, 0)", 0).due("place(0, 0, 0)", 19);
        x.due("unmark(0, 19)", 20).due("row(0, 0)", 18).due("row(0, 18)", 0).due("row(0, 19)", NONE);
        x.due("place(0, 0, 0)", 18);
    }

    private void sum() {
        World x = s.world(3).each("total(#)", 0, 0, 0, NONE);
        x.judge(10, 1, 1, 1000, 1).each("total(#)", 10000, 10, 0);
        x.judge(0, 1, 1, 1000, 1000, 1000).each("total(#)", 10000, 10, 0);
        x.judge(1, 1, 1, 0, 7, 0).each("total(#)", 10000, 17, 0);
        x.judge(10, 1, 1, 1000, 0, 0).each("total(#)", 20000, 17, 0);
        x.run("weigh(1, 10)", "weigh(2, 10)", "mark(2, 0, 1000)").each("total(#)", 40000, 10080, 10000);
    }

    private void least() {
        World x = s.world(2).run("rule(1)").judge(10, 1, 1, 7, 1000).each("total(#)", 7, 1000);
        x.judge(1, 1, 1, 8, 1000).each("total(#)", 7, 1000);
        x.judge(0, 1, 1, 1, 0).each("total(#)", 7, 1000);
        x.judge(1, 1, 1, 6, 1).each("total(#)", 6, 1);
        x.due("weigh(2, 1)", 0).each("total(#)", 1, 0);
        x.due("weigh(2, 0)", 1).each("total(#)", 6, 1);
    }

    private void leastWithoutMark() {
        World x = s.world(3).run("rule(1)").judge(1, 1, 1, 7, 0, 9).each("total(#)", 7, 0, 9);
        x.judge(1, 1, 1, 7, 7, 0).each("total(#)", 7, 0, 0);
        x.judge(1, 1, 1).each("total(#)", 0, 0, 0);
        x.due("weigh(2, 0)", 1).each("total(#)", 7, 0, 0);
        x.due("mark(0, 1, 1)", 0).each("total(#)", 7, 1, 0);
    }

    private void noWeightAbove0() {
        for (int rule = 0; rule <= 2; rule++) {
            World x = s.world(2).run("rule(" + rule + ")").each("total(#)", 0, 0);
            x.judge(0, 1, 1, 500, 1000).judge(0, 1, 1, 1000, 500).each("total(#)", 0, 0);
            x.due("weigh(0, 1)", 0).each("total(#)", 500, 1000);
            x.due("weigh(0, 0)", 1).each("total(#)", 0, 0);
        }
    }

    private void greatest() {
        World x = s.world(3).run("rule(2)").each("total(#)", 0, 0, 0, NONE);
        x.judge(10, 1, 1, 7, 1000).each("total(#)", 7, 1000, 0);
        x.judge(1, 1, 1, 8, 999).each("total(#)", 8, 1000, 0);
        x.judge(0, 1, 1, 1000, 1000, 1000).each("total(#)", 8, 1000, 0);
        x.judge(1, 1, 1, 0, 0, 1).each("total(#)", 8, 1000, 1);
        x.due("weigh(2, 1)", 0).each("total(#)", 1000, 1000, 1000);
    }

    private void totals() {
        World x = s.world(1).judge(2, 1, 1, 30).judge(3, 1, 1, 20);
        x.due("total(0)", 120);
        x.due("rule(1)", 0).due("total(0)", 20);
        x.due("rule(2)", 1).due("total(0)", 30);
        x.due("rule(0)", 2).due("total(0)", 120);
    }

    private void best() {
        World x = s.small().each("best(#)", 2, 1, 0, NONE);
        x.run("rule(1)").each("best(#)", 2, 1, 0, NONE);
        x.run("mark(0, 0, 1000)", "mark(1, 1, 41)", "rule(2)").each("best(#)", 0, 1, 2, NONE);
        x.run("weigh(0, 0)").each("best(#)", 1, 2, 0, NONE);
    }

    private void bestAlike() {
        World x = s.world(20);
        for (int i = 0; i < 20; i++) {
            x.due("best(" + i + ")", i);
        }
        x.judge(1, 1, 1, 5, 9, 5, 9).each("best(#)", 1, 3, 0, 2, 4, 5).due("best(19)", 19).due("best(20)", NONE);
        x.judge(1, 1, 1, 4, 0, 4, 0).each("best(#)", 0, 1, 2, 3, 4);
    }
}
