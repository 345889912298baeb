import java.util.Arrays;

/** Promises 22 to 25: what could be enough. */
final class EnoughPromises {
    private static final int NONE = World.NONE, BAD = World.BAD, STATE = World.STATE;
    private final Sentences s;

    EnoughPromises(Sentences s) {
        this.s = s;
    }

    void tell() {
        s.section("Promise 22: enough");
        s.holds("Whether DEPTHS are ENOUGH for k", this::enough);
        s.holds("(d of LISTS that there are not: 0): 1, 0.", this::enoughWithoutLists);
        s.holds("BAD: k as of begin(),", this::enoughBadK);
        s.holds("a DEPTH.", this::enoughBadDepth);
        s.section("Promise 23: least");
        s.holds("THE LEAST for k: its COST.", this::least);
        s.holds("BAD: k;", this::leastBad);
        s.holds("STATE: there are more than 500 rows of DEPTHS.", this::leastState);
        s.section("Promise 24: leastDepth");
        s.holds("d of a LIST in THE LEAST that least() told latest", this::leastDepth);
        s.holds("(0 ahead of any).", this::leastDepthAheadOfAny);
        s.holds("NONE: not 0 .. 3.", this::leastDepthNone);
        s.section("Promise 25: count");
        s.holds("What 0 THINGS,", this::countThings);
        s.holds("1 LISTS,", this::countLists);
        s.holds("2 MARKS,", this::countMarks);
        s.holds("3 THE RULE,", this::countRule);
        s.holds("4 whether there is a READER (1, 0).", this::countReader);
        s.holds("NONE.", this::countNone);
    }

    private void enough() {
        World x = s.small().due("enough(1, 2, 2, 0, 0)", 1).due("enough(1, 2, 1, 0, 0)", 0).due("enough(1, 1, 2, 0, 0)", 0);
        x.due("enough(1, 3, 2, 0, 0)", 1).due("enough(1, 0, 0, 0, 0)", 0).due("enough(3, 0, 0, 0, 0)", 1);
        // 75 and 80 against up to 40 of THING 0; the last place of the first ROW is not needed.
        x.due("enough(2, 2, 2, 0, 0)", 1).due("enough(2, 1, 2, 0, 0)", 0);
        x.due("count(4)", 0).each("leastDepth(#)", 0, 0, 0, 0);
        // By GREATEST the first place of each of four LISTS alone is enough.
        World y = s.world(2).run("rule(2)").judge(1, 1, 1, 1000).judge(1, 1, 1, 1000).judge(1, 1, 1, 1000).judge(1, 1, 1, 1000);
        y.due("enough(1, 0, 0, 0, 0)", 0).all(1, "enough(1, 1, 0, 0, 0)", "enough(1, 0, 1, 0, 0)", "enough(1, 0, 0, 1, 0)",
            "enough(1, 0, 0, 0, 1)", "enough(1, 1, 1, 1, 1)");
        // A READER is neither looked at nor moved.
        s.midway().run("enough(1, 3, 2, 0, 0)", "enough(2, 0, 1, 0, 0)").dueLike(s.midway());
        s.done().run("enough(2, 2, 2, 0, 0)", "enough(1, 0, 0, 0, 0)").dueLike(s.done());
    }

    private void enoughWithoutLists() {
        s.world(2).due("enough(1, 0, 0, 0, 0)", 1).all(BAD, Sentences.outside("enough(1, #, 0, 0, 0)", 0, 0));
        World x = s.world(2);
        String[] beyond = {"enough(2, 0, #, 0, 0)", "enough(2, 0, 0, #, 0)", "enough(2, 0, 0, 0, #)"};
        for (int lists = 1; lists <= 3; lists++) {
            x.judge(1, 1, 1, 5, 4).due("enough(2, 0, 0, 0, 0)", 1);
            for (int list = lists; list <= 3; list++) {
                x.all(BAD, Sentences.outside(beyond[list - 1], 0, 0));
            }
        }
        x.due("enough(2, 2, 2, 2, 0)", 1).due("enough(2, 2, 2, 2, 1)", BAD);
        x.judge(1, 1, 1, 5, 4).due("enough(2, 2, 2, 2, 1)", 1).due("enough(2, 2, 2, 2, 2)", 1);
    }

    private void enoughBadK() {
        s.refused(s::midway, BAD, Sentences.outside("enough(#, 0, 0, 0, 0)", 1, 3));
        s.refused(s::done, BAD, Sentences.outside("enough(#, 3, 2, 0, 0)", 1, 3));
        s.world(0).all(BAD, Sentences.outside("enough(#, 0, 0, 0, 0)", 1, 0));
        s.world(1).all(BAD, Sentences.outside("enough(#, 0, 0, 0, 0)", 1, 1)).due("enough(1, 0, 0, 0, 0)", 1);
        s.full().all(BAD, Sentences.outside("enough(#, 0, 0, 0, 0)", 1, 20)).due("enough(20, 0, 0, 0, 0)", 1)
            .due("enough(1, 0, 0, 0, 0)", 0);
    }

    /** ROWS of the lengths 20, 3, 2, 0 in the second world. */
    private void enoughBadDepth() {
        s.refused(s::midway, BAD, Sentences.outside("enough(1, #, 0, 0, 0)", 0, 3));
        s.refused(s::midway, BAD, Sentences.outside("enough(1, 0, #, 0, 0)", 0, 2));
        s.refused(s::midway, BAD, Sentences.outside("enough(1, 0, 0, #, 0)", 0, 0));
        s.refused(s::midway, BAD, Sentences.outside("enough(1, 0, 0, 0, #)", 0, 0));
        int[] twenty = new int[20];
        Arrays.fill(twenty, 9);
        World x = s.world(20).judge(1, 1, 1, twenty).judge(1, 1, 1, 3, 2, 1).judge(1, 1, 1, 2, 1).judge(1, 1, 1);
        String[] of = {"enough(20, #, 0, 0, 0)", "enough(20, 0, #, 0, 0)", "enough(20, 0, 0, #, 0)", "enough(20, 0, 0, 0, #)"};
        int[] lengths = {20, 3, 2, 0};
        for (int list = 0; list < 4; list++) {
            x.all(BAD, Sentences.outside(of[list], 0, lengths[list]));
            x.due(of[list].replace("#", "0"), 1).due(of[list].replace("#", Integer.toString(lengths[list])), 1);
        }
    }

    private void least() {
        World x = s.small().due("least(1)", 14).due("least(2)", 14).due("least(3)", 0);
        x.due("count(4)", 0);
        // 1, 2 is ENOUGH and comes first, but costs 21.
        s.world(2).judge(1, 1, 0, 5, 9).judge(1, 10, 0, 7, 8).due("enough(1, 1, 2, 0, 0)", 1).due("least(1)", 12);
        // Nothing to be SEEN: without LISTS, with empty ROWS, with WEIGHT 0.
        s.world(2).due("least(1)", 0).judge(1, 9, 1).due("least(1)", 0).judge(0, 9, 1, 3, 4).due("least(1)", 0)
            .due("weigh(1, 1)", 0).due("least(1)", 18);
        s.world(1).judge(1, 100, 1, 7).due("least(1)", 0);
        // Just ENOUGH at the dearest price: all 20 places.
        int[] rising = new int[20];
        for (int thing = 0; thing < 20; thing++) {
            rising[thing] = thing + 1;
        }
        s.world(20).judge(1, 100, 1, rising).due("least(19)", 2000).due("leastDepth(0)", 20).due("least(1)", 200);
        // A READER is neither looked at nor moved.
        s.midway().due("least(1)", 14).dueLike(s.midway());
        s.done().due("least(2)", 14).dueLike(s.done());
    }

    private void leastBad() {
        s.refused(s::midway, BAD, Sentences.outside("least(#)", 1, 3));
        s.refused(s::many, BAD, Sentences.outside("least(#)", 1, 20));
        s.world(0).judge(1, 1, 1).all(BAD, Sentences.outside("least(#)", 1, 0));
        s.world(1).all(BAD, Sentences.outside("least(#)", 1, 1)).due("least(1)", 0);
    }

    private World withRows(int... lengths) {
        World x = s.world(20);
        for (int length : lengths) {
            int[] marks = new int[length];
            Arrays.fill(marks, 5);
            x.judge(1, 1, 1, marks);
        }
        return x;
    }

    private void leastState() {
        // 20 * 5 * 5 and 4 * 5 * 5 * 5 are 500; 21 * 12 * 2 and 18 * 14 * 2 are 504, and nothing lies between.
        withRows(19, 4, 4).due("least(20)", 0).due("least(1)", 1 + 1 + 1);
        withRows(3, 4, 4, 4).due("least(20)", 0).due("least(1)", 4);
        withRows(4, 19, 0, 4).due("least(20)", 0);
        s.refused(() -> withRows(20, 11, 1), STATE, "least(20)", "least(1)");
        s.refused(() -> withRows(17, 13, 1), STATE, "least(20)");
        withRows(20, 20, 20, 20).due("least(20)", STATE).due("least(1)", STATE);
        // It turns with a single MARK, either way.
        World x = withRows(19, 4, 4).due("least(1)", 3).due("mark(0, 19, 5)", 0).due("least(1)", STATE);
        x.each("leastDepth(#)", 1, 1, 1, 0).due("unmark(0, 19)", 5).due("least(1)", 3).due("list(1, 1, 1)", 3);
        x.due("least(1)", 3).due("mark(3, 0, 1)", 0).due("least(1)", STATE).due("weigh(3, 0)", 1).due("least(1)", STATE);
        s.refused(() -> s.full().run("least(20)"), BAD, "least(21)");
    }

    private void leastDepth() {
        World x = s.small().due("least(1)", 14).each("leastDepth(#)", 2, 2, 0, 0);
        // What changes later is no matter, nor are refused ones.
        x.run("mark(0, 0, 1000)", "rule(1)", "list(1, 1, 1)", "enough(1, 1, 1, 0, 0)").due("least(0)", BAD);
        x.each("leastDepth(#)", 2, 2, 0, 0).due("least(3)", 0).each("leastDepth(#)", 0, 0, 0, 0);
        s.midway().run("begin(0, 1, 0)", "finish()").each("leastDepth(#)", 2, 2, 0, 0);
        // The latest one counts, and each of four LISTS is told.
        World y = s.world(2).judge(1, 1, 1, 9, 8).judge(1, 1, 1, 9, 8).judge(1, 1, 1, 9, 8).judge(1, 1, 1, 9, 8);
        y.due("least(1)", 4).each("leastDepth(#)", 1, 1, 1, 1, NONE).due("least(2)", 0).each("leastDepth(#)", 0, 0, 0, 0, NONE);
        y.due("rule(1)", 0).due("least(1)", 4).each("leastDepth(#)", 1, 1, 1, 1, NONE);
    }

    private void leastDepthAheadOfAny() {
        s.world(0).each("leastDepth(#)", 0, 0, 0, 0, NONE);
        s.small().each("leastDepth(#)", 0, 0, 0, 0, NONE).run("begin(0, 1, 0)", "finish()").due("enough(1, 2, 2, 0, 0)", 1)
            .each("leastDepth(#)", 0, 0, 0, 0, NONE);
        // A refused least() has told none.
        s.many().due("least(1)", STATE).due("least(0)", BAD).each("leastDepth(#)", 0, 0, 0, 0, NONE);
    }

    private void leastDepthNone() {
        s.refused(s::midway, NONE, Sentences.outside("leastDepth(#)", 0, 3));
        s.world(0).all(NONE, Sentences.outside("leastDepth(#)", 0, 3));
        // LISTS 2 and 3 there are not, but their numbers are taken.
        s.midway().due("leastDepth(2)", 0).due("leastDepth(3)", 0);
    }

    private void countThings() {
        World x = s.world(0);
        for (int i = 0; i < 20; i++) {
            x.due("count(0)", i).run("thing()");
        }
        x.due("count(0)", 20).due("thing()", World.FULL).due("count(0)", 20);
    }

    private void countLists() {
        World x = s.world(0);
        for (int i = 0; i < 4; i++) {
            x.due("count(1)", i).due("list(11, 1, 1)", BAD).run("list(1, 1, 1)");
        }
        x.due("count(1)", 4).due("list(1, 1, 1)", World.FULL).due("count(1)", 4);
    }

    private void countMarks() {
        World x = s.world(20).judge(1, 1, 1).judge(1, 1, 1).judge(1, 1, 1).judge(0, 1, 1).due("count(2)", 0);
        for (int list = 0; list < 4; list++) {
            for (int thing = 0; thing < 20; thing++) {
                x.run("mark(" + list + ", " + thing + ", 7)");
            }
            x.due("count(2)", 20 * (list + 1));
        }
        x.due("mark(3, 19, 8)", 7).due("count(2)", 80).due("mark(3, 19, 0)", BAD).due("count(2)", 80);
        x.due("unmark(3, 19)", 8).due("count(2)", 79).due("unmark(3, 19)", 0).due("count(2)", 79);
        x.due("mark(3, 19, 8)", 0).due("count(2)", 80);
    }

    private void countRule() {
        World x = s.world(0).due("count(3)", 0).run("rule(2)").due("count(3)", 2).run("rule(1)").due("count(3)", 1);
        x.due("rule(3)", BAD).due("count(3)", 1).run("rule(0)").due("count(3)", 0);
    }

    private void countReader() {
        World x = s.small().due("count(4)", 0).run("begin(0, 1, 0)").due("count(4)", 1).run("finish()").due("count(4)", 1);
        x.due("begin(0, 0, 0)", BAD).due("count(4)", 1).run("thing()").due("count(4)", 0).due("begin(0, 0, 0)", BAD);
        x.due("count(4)", 0).run("begin(0, 4, 0)").due("count(4)", 1);
    }

    private void countNone() {
        s.refused(s::midway, NONE, Sentences.outside("count(#)", 0, 4));
        s.world(0).all(NONE, Sentences.outside("count(#)", 0, 4));
    }
}
