import java.util.ArrayList;
import java.util.Arrays;
import java.util.List;
import java.util.function.Supplier;

/** The Terms of parts 3 and 4: DEPTHS that are ENOUGH, THE LEAST, REFUSALS. */
final class EnoughTerms {
    private static final int NONE = World.NONE, BAD = World.BAD, STATE = World.STATE, FULL = World.FULL;
    private final Sentences s;

    EnoughTerms(Sentences s) {
        this.s = s;
    }

    void tell() {
        s.section("Terms");
        s.holds("DEPTHS d(0), d(1), .. (of all LISTS, each from 0 to the length of its ROW)", this::depths);
        s.holds("are ENOUGH for k if it is SURE with just these,", this::enough);
        s.holds("nothing looked UP.", this::nothingLookedUp);
        s.holds("THE LEAST: of those that are ENOUGH that with the least COST,", this::leastCost);
        s.holds("of these that with the least d(0), then d(1), and so on.", this::leastDepths);
        s.holds("REFUSALS, of several the first one told:", this::firstOneTold);
        s.holds("NONE there is no such THING, LIST, place, i, what,", this::none);
        s.holds("no READER;", this::noReader);
        s.holds("BAD a number is not as told;", this::bad);
        s.holds("STATE as told;", this::state);
        s.holds("FULL.", this::full);
        s.holds("They change nothing.", this::changeNothing);
        s.says("Ahead of the calls `thing`, `list`, `mark`, `unmark`, `weigh`, `rule`, `about`, `row`, `place`, `total`, "
            + "`best` the interface says: ---- lists and marks.");
        s.says("Ahead of the calls `begin`, `round`, `finish`, `reader`, `depth`, `known`, `bound`, `ahead`, `found` the "
            + "interface says: ---- readers.");
        s.says("Ahead of the calls `enough`, `least`, `leastDepth`, `count` the interface says: ---- what could be enough.");
    }

    /** ROWS of the lengths 3, 2, 1, 0. */
    private void depths() {
        World x = s.world(3).judge(1, 1, 1, 5, 4, 3).judge(1, 1, 1, 5, 4).judge(1, 1, 1, 5).judge(1, 1, 1);
        x.due("enough(3, 0, 0, 0, 0)", 1).due("enough(3, 3, 2, 1, 0)", 1).due("enough(1, 3, 2, 1, 0)", 1);
        x.all(BAD, "enough(3, -1, 0, 0, 0)", "enough(3, 0, -1, 0, 0)", "enough(3, 0, 0, -1, 0)", "enough(3, 0, 0, 0, -1)");
        x.all(BAD, "enough(3, 4, 0, 0, 0)", "enough(3, 0, 3, 0, 0)", "enough(3, 0, 0, 2, 0)", "enough(3, 0, 0, 0, 1)");
        x.due("unmark(0, 2)", 3).due("enough(3, 3, 0, 0, 0)", BAD).due("enough(3, 2, 0, 0, 0)", 1);
        x.due("mark(3, 2, 1)", 0).due("enough(3, 0, 0, 0, 1)", 1).due("enough(3, 0, 0, 0, 2)", BAD);
        s.many().due("enough(20, 20, 11, 1, 0)", 1).due("enough(20, 21, 11, 1, 0)", BAD);
    }

    private void enough() {
        World x = s.small();
        int[][] wanted = {{0, 0, 0}, {0, 0, 0}, {0, 0, 1}, {0, 0, 1}};
        for (int d0 = 0; d0 <= 3; d0++) {
            for (int d1 = 0; d1 <= 2; d1++) {
                x.due("enough(1, " + d0 + ", " + d1 + ", 0, 0)", wanted[d0][d1]);
                x.due("enough(3, " + d0 + ", " + d1 + ", 0, 0)", 1);
            }
        }
        // Alike to what the others may have: AHEAD with the less number only.
        s.world(2).judge(1, 1, 0, 7, 6).due("enough(1, 0, 0, 0, 0)", 0).due("enough(1, 1, 0, 0, 0)", 1);
        s.world(2).judge(1, 1, 0, 6, 7).due("enough(1, 1, 0, 0, 0)", 0).due("enough(1, 2, 0, 0, 0)", 1);
    }

    private void nothingLookedUp() {
        World x = s.midway().due("reader(4)", 2).due("enough(1, 1, 1, 0, 0)", 0).due("enough(1, 2, 1, 0, 0)", 0);
        // With what the READER looked UP it would be SURE: 80 against 75 and up to 60.
        x.due("enough(1, 1, 2, 0, 0)", 0).due("finish()", 1).due("enough(1, 1, 2, 0, 0)", 0).due("least(1)", 14);
        x.due("reader(5)", 26).each("depth(#, 0)", 2, 2);
    }

    /** By GREATEST the first place of each LIST alone makes it SURE. */
    private World anyDoes(int... downs) {
        World x = s.world(2).run("rule(2)");
        for (int down : downs) {
            x.judge(1, down, 0, 1000);
        }
        return x;
    }

    private void leastCost() {
        s.small().due("least(1)", 14).each("leastDepth(#)", 2, 2, 0, 0);
        s.small().due("least(3)", 0).each("leastDepth(#)", 0, 0, 0, 0);
        anyDoes(1, 2, 2, 2).due("least(1)", 1).each("leastDepth(#)", 1, 0, 0, 0);
        anyDoes(100, 99, 100, 100).due("least(1)", 99).each("leastDepth(#)", 0, 1, 0, 0);
        anyDoes(5, 5, 4, 5).due("least(1)", 4).each("leastDepth(#)", 0, 0, 1, 0);
        anyDoes(3, 3, 3, 1).due("least(1)", 1).each("leastDepth(#)", 0, 0, 0, 1);
        // A place of the one and two of the other do, either way round.
        s.world(2).judge(1, 10, 0, 5, 9).judge(1, 1, 0, 7, 8).due("least(1)", 12).each("leastDepth(#)", 1, 2, 0, 0);
        s.world(2).judge(1, 1, 0, 5, 9).judge(1, 10, 0, 7, 8).due("least(1)", 12).each("leastDepth(#)", 2, 1, 0, 0);
    }

    private void leastDepths() {
        anyDoes(3, 3, 3, 3).due("least(1)", 3).each("leastDepth(#)", 0, 0, 0, 1);
        anyDoes(3, 3, 3, 4).due("least(1)", 3).each("leastDepth(#)", 0, 0, 1, 0);
        anyDoes(3, 3, 4, 4).due("least(1)", 3).each("leastDepth(#)", 0, 1, 0, 0);
        anyDoes(3, 4, 4, 4).due("least(1)", 3).each("leastDepth(#)", 1, 0, 0, 0);
        anyDoes(3, 4, 3, 4).due("least(1)", 3).each("leastDepth(#)", 0, 0, 1, 0);
        // What enough() was asked for, or least() told, is no beginning.
        World x = anyDoes(3, 3, 3, 3).due("enough(1, 1, 0, 0, 0)", 1).due("least(1)", 3).each("leastDepth(#)", 0, 0, 0, 1);
        x.due("least(1)", 3).each("leastDepth(#)", 0, 0, 0, 1).due("enough(1, 1, 1, 1, 1)", 1).run("unmark(3, 0)");
        x.due("least(1)", 3).each("leastDepth(#)", 0, 0, 1, 0);
    }

    private void firstOneTold() {
        World x = s.midway();
        x.all(NONE, "mark(2, 0, 0)", "mark(-1, 0, 1001)", "mark(0, 3, 0)", "mark(0, -1, 1001)", "mark(2, 3, 0)");
        x.all(NONE, "weigh(2, 11)", "weigh(-1, -1)");
        x.all(NONE, "bound(3, 2)", "bound(-1, -1)", "ahead(3, 3)", "ahead(-1, -1)");
        // It is not DONE, and there is no such i.
        x.all(NONE, "found(1)", "found(-1)").due("found(0)", STATE);
        s.small().all(NONE, "bound(0, 2)", "bound(0, -1)", "ahead(0, 0)", "found(0)", "round()", "finish()");
        s.full().all(BAD, "list(-1, 1, 1)", "list(11, 1, 1)", "list(1, 0, 1)", "list(1, 101, 1)", "list(1, 1, -1)",
            "list(1, 1, 101)").due("list(1, 1, 1)", FULL);
        s.many().all(BAD, "least(0)", "least(21)").due("least(1)", STATE);
    }

    private void none() {
        s.midway().all(NONE, noSuch(2, 3));
        s.midway().all(NONE, "row(0, -1)", "row(0, 3)", "row(1, -1)", "row(1, 2)");
        s.done().all(NONE, "best(-1)", "best(3)", "found(-1)", "found(1)");
        s.midway().all(NONE, "about(0, -1)", "about(0, 4)", "place(0, 0, -1)", "place(0, 0, 2)", "reader(-1)", "reader(8)",
            "depth(0, -1)", "depth(0, 2)", "count(-1)", "count(5)", "leastDepth(-1)", "leastDepth(4)");
        s.full().all(NONE, noSuch(4, 20));
        s.world(0).all(NONE, noSuch(0, 0));
    }

    /** Calls of LISTS and THINGS just outside of those that there are. */
    private static String[] noSuch(int lists, int things) {
        List<String> told = new ArrayList<>();
        String[] ofList = {"mark(#, 0, 1)", "unmark(#, 0)", "weigh(#, 1)", "about(#, 0)", "row(#, 0)", "place(#, 0, 0)",
            "depth(#, 0)", "known(#, 0)"};
        String[] ofThing = {"mark(0, #, 1)", "unmark(0, #)", "place(0, #, 0)", "total(#)", "known(0, #)", "bound(#, 0)",
            "ahead(#, 0)", "ahead(0, #)"};
        for (String pattern : ofList) {
            told.addAll(Arrays.asList(Sentences.outside(pattern, 0, lists - 1)));
        }
        for (String pattern : ofThing) {
            told.addAll(Arrays.asList(Sentences.outside(pattern, 0, things - 1)));
        }
        return told.toArray(new String[0]);
    }

    private void noReader() {
        for (World x : new World[] {s.small(), s.midway().run("mark(0, 0, 1)"), s.done().run("rule(2)")}) {
            x.each("reader(#)", NONE, NONE, NONE, NONE, NONE, NONE, NONE, NONE);
            x.all(NONE, "round()", "finish()", "depth(0, 0)", "depth(0, 1)", "known(0, 0)", "bound(0, 0)", "bound(0, 1)");
            x.all(NONE, "ahead(0, 1)", "found(0)");
        }
    }

    private void bad() {
        s.midway().all(BAD, "list(-1, 1, 1)", "list(11, 1, 1)", "list(1, 0, 1)", "list(1, 101, 1)", "list(1, 1, -1)",
            "list(1, 1, 101)", "mark(0, 0, 0)", "mark(0, 0, 1001)", "weigh(0, -1)", "weigh(0, 11)", "rule(-1)", "rule(3)",
            "begin(0, 0, 0)", "begin(0, 4, 0)", "begin(-1, 1, 0)", "begin(3, 1, 0)", "begin(0, 1, 1)", "begin(2, 1, 0)",
            "begin(2, 1, 11)", "bound(0, -1)", "bound(0, 2)", "ahead(0, 0)", "ahead(2, 2)", "enough(0, 0, 0, 0, 0)",
            "enough(4, 0, 0, 0, 0)", "enough(1, 4, 0, 0, 0)", "enough(1, 0, 0, 1, 0)", "least(0)", "least(4)");
    }

    private void state() {
        s.done().all(STATE, "round()", "finish()");
        s.midway().all(STATE, "found(0)");
        s.many().all(STATE, "least(1)", "least(20)");
    }

    private void full() {
        s.full().all(FULL, "thing()", "thing()", "list(0, 1, 0)", "list(10, 100, 100)");
    }

    private void changeNothing() {
        for (Supplier<World> maker : List.<Supplier<World>>of(s::small, s::midway, s::done)) {
            s.refused(maker, NONE, noSuch(2, 3));
            s.refused(maker, BAD, "list(11, 1, 1)", "list(1, 101, 1)", "list(1, 1, 101)", "mark(0, 0, 0)", "mark(0, 0, 1001)",
                "weigh(0, -1)", "weigh(0, 11)", "rule(-1)", "rule(3)", "begin(0, 0, 0)", "begin(0, 4, 0)", "begin(3, 1, 1)",
                "begin(1, 1, 1)", "begin(2, 1, 11)", "enough(0, 3, 2, 0, 0)", "enough(1, 3, 3, 0, 0)",
                "enough(1, 3, 2, 0, 1)", "least(0)", "least(4)");
        }
        s.refused(s::midway, BAD, "ahead(1, 1)", "bound(0, 2)");
        s.refused(s::midway, STATE, "found(0)");
        s.refused(s::done, STATE, "round()", "finish()");
        s.refused(s::small, NONE, "round()", "finish()", "found(0)");
        s.refused(s::full, FULL, "thing()", "list(1, 1, 1)");
        s.refused(s::many, STATE, "least(1)", "least(20)");
    }
}
