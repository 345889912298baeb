/** Promises 1 to 12: lists and marks. */
final class ListPromises {
    private static final int NONE = World.NONE, BAD = World.BAD, FULL = World.FULL;
    private final Sentences s;

    ListPromises(Sentences s) {
        this.s = s;
    }

    void tell() {
        s.section("Promise 1: A new object");
        s.holds("No THINGS, no LISTS;", this::newWithoutThingsAndLists);
        s.holds("THE RULE is SUM;", this::newRuleIsSum);
        s.holds("no READER.", this::newWithoutReader);
        s.section("Promise 2: thing");
        s.holds("A THING more, without MARKS: its number.", this::thing);
        s.holds("FULL.", this::thingFull);
        s.section("Promise 3: list");
        s.holds("A LIST more, without MARKS: its number.", this::list);
        s.holds("BAD: weight, down, up;", this::listBad);
        s.holds("FULL.", this::listFull);
        s.section("Promise 4: mark");
        s.holds("A THING has a MARK in a LIST: what it was (0: none).", this::mark);
        s.holds("NONE;", this::markNone);
        s.holds("BAD: not 1 .. 1000.", this::markBad);
        s.section("Promise 5: unmark");
        s.holds("A THING has no MARK in a LIST any more: what it was", this::unmark);
        s.holds("(0: it had none; the READER stays then).", this::unmarkOfNone);
        s.holds("NONE.", this::unmarkNone);
        s.section("Promise 6: weigh");
        s.holds("The WEIGHT of a LIST becomes w: what it was.", this::weigh);
        s.holds("NONE;", this::weighNone);
        s.holds("BAD.", this::weighBad);
        s.section("Promise 7: rule");
        s.holds("THE RULE becomes r: what it was.", this::rule);
        s.holds("BAD.", this::ruleBad);
        s.section("Promise 8: about");
        s.holds("Of a LIST what 0 WEIGHT, 1 DOWN, 2 UP, 3 the length of its ROW.", this::about);
        s.holds("NONE.", this::aboutNone);
        s.section("Promise 9: row");
        s.holds("The THING at a place of a LIST's ROW.", this::row);
        s.holds("NONE.", this::rowNone);
        s.section("Promise 10: place");
        s.holds("The place of a THING in a LIST's ROW (what 0), its MARK (1).", this::place);
        s.holds("NONE: it has none, too.", this::placeNone);
        s.section("Promise 11: total");
        s.holds("The TOTAL of a THING.", this::total);
        s.holds("NONE.", this::totalNone);
        s.section("Promise 12: best");
        s.holds("The i-th, from 0 on, of THE BEST (of all THINGS).", this::best);
        s.holds("NONE.", this::bestNone);
    }

    private void newWithoutThingsAndLists() {
        // What another object has is no matter.
        s.midway();
        World x = s.world(0).each("count(#)", 0, 0, 0);
        x.all(NONE, "total(0)", "best(0)", "about(0, 0)", "row(0, 0)", "place(0, 0, 0)", "mark(0, 0, 1)", "unmark(0, 0)");
        x.all(NONE, "weigh(0, 1)").all(BAD, "begin(0, 0, 0)", "begin(0, 1, 0)", "enough(1, 0, 0, 0, 0)", "least(1)");
        x.each("leastDepth(#)", 0, 0, 0, 0).due("thing()", 0).due("list(1, 1, 1)", 0);
    }

    private void newRuleIsSum() {
        s.midway().run("rule(2)");
        s.world(0).due("count(3)", 0).due("rule(0)", 0);
        s.world(1).judge(2, 1, 1, 30).judge(1, 1, 1, 20).due("total(0)", 80).due("rule(1)", 0);
    }

    private void newWithoutReader() {
        s.midway();
        World x = s.world(0).due("count(4)", 0).each("reader(#)", NONE, NONE, NONE, NONE, NONE, NONE, NONE, NONE);
        x.all(NONE, "round()", "finish()", "found(0)", "depth(0, 0)", "known(0, 0)", "bound(0, 0)", "ahead(0, 1)");
    }

    private void thing() {
        World x = s.small().due("thing()", 3).due("count(0)", 4).due("count(2)", 5);
        x.each("place(#, 3, 1)", NONE, NONE).each("place(#, 3, 0)", NONE, NONE).each("about(#, 3)", 3, 2);
        x.due("total(3)", 0).each("best(#)", 2, 1, 0, 3, NONE).due("thing()", 4).due("place(0, 4, 1)", NONE);
        // A THING that comes to LISTS with the greatest MARKS has none of them.
        World y = s.world(0).judge(1, 1, 1);
        for (int i = 0; i < 20; i++) {
            y.due("thing()", i).due("place(0, " + i + ", 1)", NONE).due("mark(0, " + i + ", 1000)", 0);
        }
        y.due("about(0, 3)", 20);
    }

    private void thingFull() {
        World x = s.world(19).due("thing()", 19).due("thing()", FULL).due("thing()", FULL).due("count(0)", 20);
        x.due("total(20)", NONE);
        s.refused(s::full, FULL, "thing()", "thing()");
        s.refused(() -> s.full().run("begin(0, 20, 0)"), FULL, "thing()");
    }

    private void list() {
        World x = s.small().due("list(1, 1, 1)", 2).due("count(1)", 3).due("count(2)", 5).due("about(2, 3)", 0);
        x.due("row(2, 0)", NONE).each("place(2, #, 1)", NONE, NONE, NONE).each("total(#)", 20, 75, 80);
        // By LEAST a LIST without MARKS makes each TOTAL 0.
        x.run("rule(1)").each("total(#)", 0, 0, 0).due("list(0, 1, 1)", 3).due("about(3, 3)", 0);
    }

    private void listBad() {
        s.refused(s::midway, BAD, Sentences.outside("list(#, 1, 1)", 0, 10));
        s.refused(s::midway, BAD, Sentences.outside("list(1, #, 1)", 1, 100));
        s.refused(s::midway, BAD, Sentences.outside("list(1, 1, #)", 0, 100));
        World x = s.world(0).all(BAD, "list(-1, 0, -1)", "list(11, 101, 101)");
        x.due("list(0, 1, 0)", 0).due("list(10, 100, 100)", 1).each("about(0, #)", 0, 1, 0, 0);
        x.each("about(1, #)", 10, 100, 100, 0);
    }

    private void listFull() {
        World x = s.world(0).judge(1, 1, 1).judge(1, 1, 1).judge(1, 1, 1).due("list(9, 8, 7)", 3).due("list(1, 1, 1)", FULL);
        x.due("list(1, 1, 1)", FULL).due("count(1)", 4).each("about(3, #)", 9, 8, 7, 0).due("about(4, 0)", NONE);
        x.due("list(11, 1, 1)", BAD);
        s.refused(s::full, FULL, "list(1, 1, 1)", "list(0, 1, 0)", "list(10, 100, 100)");
        s.refused(() -> s.full().run("begin(1, 20, 0)"), FULL, "list(1, 1, 1)");
    }

    private void mark() {
        World x = s.world(2).judge(1, 1, 1).judge(1, 1, 1);
        x.due("mark(0, 1, 1)", 0).due("mark(0, 1, 1000)", 1).due("mark(0, 1, 1000)", 1000).due("mark(0, 1, 7)", 1000);
        x.due("count(2)", 1).due("place(0, 1, 1)", 7).due("place(0, 0, 1)", NONE).due("place(1, 1, 1)", NONE);
        x.due("unmark(0, 1)", 7).due("mark(0, 1, 3)", 0).due("count(2)", 1);
        s.world(20).judge(1, 1, 1).judge(1, 1, 1).judge(1, 1, 1).judge(1, 1, 1).due("mark(3, 19, 1000)", 0)
            .due("place(3, 19, 1)", 1000).due("row(3, 0)", 19).due("count(2)", 1);
    }

    private void markNone() {
        s.refused(s::midway, NONE, Sentences.outside("mark(#, 0, 5)", 0, 1));
        s.refused(s::midway, NONE, Sentences.outside("mark(0, #, 5)", 0, 2));
        s.refused(s::midway, NONE, "mark(2, 0, 0)", "mark(0, 3, 1001)");
        s.full().all(NONE, Sentences.outside("mark(#, 0, 5)", 0, 3)).all(NONE, Sentences.outside("mark(0, #, 5)", 0, 19));
        s.world(0).judge(1, 1, 1).due("mark(0, 0, 5)", NONE).due("about(0, 3)", 0);
        s.world(1).due("mark(0, 0, 5)", NONE).due("count(2)", 0);
    }

    private void markBad() {
        s.refused(s::midway, BAD, Sentences.outside("mark(0, 0, #)", 1, 1000));
        s.refused(s::midway, BAD, Sentences.outside("mark(1, 0, #)", 1, 1000));
        s.small().due("mark(1, 0, 1)", 0).due("mark(1, 0, 1000)", 1).due("mark(1, 0, 1001)", BAD).due("mark(1, 0, 0)", BAD)
            .due("place(1, 0, 1)", 1000);
    }

    private void unmark() {
        World x = s.small().due("unmark(0, 2)", 20).due("count(2)", 4).due("about(0, 3)", 2).each("row(0, #)", 1, 0, NONE);
        x.each("place(0, 2, #)", NONE, NONE).due("place(1, 2, 1)", 40).each("total(#)", 20, 75, 40);
        x.due("unmark(0, 1)", 30).due("unmark(0, 0)", 10).due("about(0, 3)", 0).due("row(0, 0)", NONE).due("count(2)", 2);
        s.full().due("mark(3, 19, 1000)", 0).due("unmark(3, 19)", 1000).due("unmark(3, 19)", 0);
    }

    private void unmarkOfNone() {
        s.small().due("unmark(1, 0)", 0).due("unmark(0, 0)", 10).due("unmark(0, 0)", 0).due("count(2)", 4);
        World x = s.midway().due("unmark(1, 0)", 0).due("count(4)", 1).each("reader(#)", 1, 1, 1, 2, 2, 19, 0, 2);
        x.dueLike(s.midway());
        s.done().due("unmark(1, 0)", 0).due("found(0)", 2);
        s.midway().due("unmark(0, 0)", 10).due("count(4)", 0);
    }

    private void unmarkNone() {
        s.refused(s::midway, NONE, Sentences.outside("unmark(#, 1)", 0, 1));
        s.refused(s::midway, NONE, Sentences.outside("unmark(0, #)", 0, 2));
        s.full().all(NONE, Sentences.outside("unmark(#, 0)", 0, 3)).all(NONE, Sentences.outside("unmark(0, #)", 0, 19));
        s.world(0).judge(1, 1, 1).due("unmark(0, 0)", NONE);
        s.world(1).due("unmark(0, 0)", NONE);
    }

    private void weigh() {
        World x = s.small().due("weigh(0, 10)", 2).each("total(#)", 100, 315, 240).due("about(0, 0)", 10);
        x.due("weigh(0, 0)", 10).each("total(#)", 0, 15, 40).due("weigh(0, 1)", 0).each("total(#)", 10, 45, 60);
        x.due("about(1, 0)", 1).due("weigh(1, 10)", 1).due("weigh(1, 10)", 10).each("total(#)", 10, 180, 420);
        s.full().due("weigh(3, 10)", 1).due("about(3, 0)", 10);
    }

    private void weighNone() {
        s.refused(s::midway, NONE, Sentences.outside("weigh(#, 1)", 0, 1));
        s.refused(s::midway, NONE, Sentences.outside("weigh(#, 11)", 0, 1));
        s.full().all(NONE, Sentences.outside("weigh(#, 1)", 0, 3));
        s.world(1).due("weigh(0, 1)", NONE);
    }

    private void weighBad() {
        s.refused(s::midway, BAD, Sentences.outside("weigh(0, #)", 0, 10));
        s.refused(s::done, BAD, Sentences.outside("weigh(1, #)", 0, 10));
        s.small().due("weigh(0, 0)", 2).due("weigh(0, 10)", 0).all(BAD, "weigh(0, 11)", "weigh(0, -1)").due("about(0, 0)", 10);
    }

    private void rule() {
        World x = s.small().due("rule(1)", 0).due("count(3)", 1).each("total(#)", 0, 15, 20);
        x.due("rule(2)", 1).due("count(3)", 2).each("total(#)", 10, 30, 40).due("rule(2)", 2);
        x.due("rule(0)", 2).due("count(3)", 0).each("total(#)", 20, 75, 80).due("rule(0)", 0);
    }

    private void ruleBad() {
        s.refused(s::midway, BAD, Sentences.outside("rule(#)", 0, 2));
        s.refused(() -> s.small().run("rule(2)"), BAD, Sentences.outside("rule(#)", 0, 2));
    }

    private void about() {
        World x = s.world(20).judge(0, 1, 0).judge(10, 100, 100).judge(3, 4, 5, 7, 8).judge(1, 1, 1);
        x.each("about(0, #)", 0, 1, 0, 0).each("about(1, #)", 10, 100, 100, 0).each("about(2, #)", 3, 4, 5, 2);
        for (int thing = 0; thing < 20; thing++) {
            x.due("about(3, 3)", thing).run("mark(3, " + thing + ", 1)", "mark(3, " + thing + ", 2)");
        }
        x.each("about(3, #)", 1, 1, 1, 20).due("unmark(3, 0)", 2).due("unmark(3, 0)", 0).due("about(3, 3)", 19);
    }

    private void aboutNone() {
        s.refused(s::midway, NONE, Sentences.outside("about(#, 0)", 0, 1));
        s.refused(s::midway, NONE, Sentences.outside("about(0, #)", 0, 3));
        s.full().all(NONE, Sentences.outside("about(#, 3)", 0, 3)).all(NONE, Sentences.outside("about(3, #)", 0, 3));
        s.world(1).due("about(0, 0)", NONE);
    }

    private void row() {
        s.small().each("row(0, #)", 1, 2, 0, NONE).each("row(1, #)", 2, 1, NONE);
        World x = s.many();
        x.due("row(0, 0)", 0).due("row(0, 19)", 19).due("row(1, 10)", 10).due("row(2, 0)", 0);
    }

    private void rowNone() {
        s.refused(s::midway, NONE, Sentences.outside("row(#, 0)", 0, 1));
        s.refused(s::midway, NONE, Sentences.outside("row(0, #)", 0, 2));
        s.refused(s::midway, NONE, Sentences.outside("row(1, #)", 0, 1));
        s.many().all(NONE, Sentences.outside("row(0, #)", 0, 19)).all(NONE, Sentences.outside("row(1, #)", 0, 10));
        // An empty ROW has no place, and the last one is gone with its MARK.
        s.full().due("row(2, 0)", NONE).due("row(3, 0)", 0).due("unmark(3, 0)", 1).due("row(3, 0)", NONE);
        s.world(1).due("row(0, 0)", NONE);
    }

    private void place() {
        World x = s.small().each("place(0, #, 0)", 2, 0, 1).each("place(0, #, 1)", 10, 30, 20);
        x.each("place(1, #, 0)", NONE, 1, 0).each("place(1, #, 1)", NONE, 15, 40);
        World y = s.many().due("place(0, 19, 0)", 19).due("place(0, 0, 0)", 0).due("mark(0, 19, 1000)", 5);
        y.due("place(0, 19, 0)", 0).due("place(0, 19, 1)", 1000).due("place(0, 18, 0)", 19).due("mark(0, 19, 1)", 1000);
        y.due("place(0, 19, 0)", 19).due("place(0, 19, 1)", 1).due("place(0, 18, 0)", 18);
    }

    private void placeNone() {
        s.refused(s::midway, NONE, "place(1, 0, 0)", "place(1, 0, 1)", "place(1, 0, 2)");
        s.refused(s::midway, NONE, Sentences.outside("place(#, 1, 0)", 0, 1));
        s.refused(s::midway, NONE, Sentences.outside("place(0, #, 0)", 0, 2));
        s.refused(s::midway, NONE, Sentences.outside("place(0, 0, #)", 0, 1));
        s.full().all(NONE, Sentences.outside("place(#, 0, 1)", 0, 3)).all(NONE, Sentences.outside("place(0, #, 1)", 0, 19));
        s.small().due("unmark(0, 0)", 10).each("place(0, 0, #)", NONE, NONE, NONE);
        s.world(1).due("place(0, 0, 0)", NONE);
    }

    private void total() {
        s.small().each("total(#)", 20, 75, 80).run("rule(1)").each("total(#)", 0, 15, 20).run("rule(2)")
            .each("total(#)", 10, 30, 40);
        s.world(1).due("total(0)", 0).judge(1, 1, 1).due("total(0)", 0);
        s.many().due("total(0)", 15).due("total(10)", 10).due("total(11)", 5).due("total(19)", 5);
        // What a READER has not SEEN counts as well.
        s.midway().each("total(#)", 20, 75, 80);
    }

    private void totalNone() {
        s.refused(s::midway, NONE, Sentences.outside("total(#)", 0, 2));
        s.full().all(NONE, Sentences.outside("total(#)", 0, 19));
        s.world(0).judge(1, 1, 1).due("total(0)", NONE);
    }

    private void best() {
        s.small().each("best(#)", 2, 1, 0).run("weigh(0, 10)").each("best(#)", 1, 2, 0);
        s.world(1).due("best(0)", 0);
        World x = s.world(20).judge(1, 1, 1);
        for (int thing = 0; thing < 20; thing++) {
            x.run("mark(0, " + thing + ", " + (thing + 1) + ")");
        }
        for (int i = 0; i < 20; i++) {
            x.due("best(" + i + ")", 19 - i);
        }
        // All THINGS, whatever k a READER has.
        s.midway().each("best(#)", 2, 1, 0);
    }

    private void bestNone() {
        s.refused(s::midway, NONE, Sentences.outside("best(#)", 0, 2));
        s.full().all(NONE, Sentences.outside("best(#)", 0, 19)).due("best(19)", 19);
        s.world(0).judge(1, 1, 1).due("best(0)", NONE);
    }
}
