/** Promises 13 to 21: readers. */
final class ReaderPromises {
    private static final int NONE = World.NONE, BAD = World.BAD, STATE = World.STATE;
    private final Sentences s;

    ReaderPromises(Sentences s) {
        this.s = s;
    }

    void tell() {
        s.section("Promise 13: begin");
        s.holds("A READER begins: 1 it is DONE, 0 not yet.", this::begin);
        s.holds("BAD: k is not 1 .. how many THINGS there are,", this::beginBadK);
        s.holds("kind not 0 .. 2,", this::beginBadKind);
        s.holds("h not 1 .. 10", this::beginBadH);
        s.holds("(of kind 0, 1: not 0).", this::beginHOfOtherKinds);
        s.section("Promise 14: round");
        s.holds("It works one ROUND: 1 it is DONE, 0 not yet.", this::round);
        s.holds("NONE;", this::roundNone);
        s.holds("STATE: it was DONE.", this::roundState);
        s.section("Promise 15: finish");
        s.holds("It works till it is DONE: how many ROUNDS that were", this::finish);
        s.holds("(one that stopped, too).", this::finishCountsStopped);
        s.holds("NONE;", this::finishNone);
        s.holds("STATE.", this::finishState);
        s.section("Promise 16: reader");
        s.holds("Of the READER what 0 KIND, 1 k,", this::readerKindAndK);
        s.holds("2 ROUNDS so far,", this::readerRounds);
        s.holds("3 places that were SEEN,", this::readerPlaces);
        s.holds("4 how often it looked UP,", this::readerLookUps);
        s.holds("5 COST,", this::readerCost);
        s.holds("6 whether it is DONE (1, 0),", this::readerDone);
        s.holds("7 THINGS that were SEEN at some place or looked UP.", this::readerThings);
        s.holds("NONE.", this::readerNone);
        s.section("Promise 17: depth");
        s.holds("The DEPTH in a LIST (what 0),", this::depth);
        s.holds("its TOP (1).", this::depthTop);
        s.holds("NONE.", this::depthNone);
        s.section("Promise 18: known");
        s.holds("Whether a MARK is KNOWN (1, 0).", this::known);
        s.holds("NONE.", this::knownNone);
        s.section("Promise 19: bound");
        s.holds("LOW (high 0) or HIGH (1) of a THING.", this::bound);
        s.holds("NONE;", this::boundNone);
        s.holds("BAD: high not 0, 1.", this::boundBad);
        s.section("Promise 20: ahead");
        s.holds("Whether THING a is AHEAD of b for sure: 1, 0.", this::ahead);
        s.holds("NONE;", this::aheadNone);
        s.holds("BAD: they are one.", this::aheadBad);
        s.section("Promise 21: found");
        s.holds("The i-th THING, by numbers, of THE FOUND.", this::found);
        s.holds("NONE;", this::foundNone);
        s.holds("STATE: it is not DONE.", this::foundState);
    }

    /** 20 THINGS, one LIST: THING t has the MARK t + 1, so that THING 19 is the best one. */
    private World ladder() {
        int[] rising = new int[20];
        for (int thing = 0; thing < 20; thing++) {
            rising[thing] = thing + 1;
        }
        return s.world(20).judge(1, 1, 1, rising);
    }

    private void begin() {
        World x = s.small();
        for (String of : new String[] {"begin(0, #, 0)", "begin(1, #, 0)", "begin(2, #, 1)", "begin(2, #, 10)"}) {
            x.due(of.replace("#", "1"), 0).due("reader(6)", 0).due("reader(1)", 1).due("count(4)", 1);
            x.due(of.replace("#", "2"), 0).due("reader(6)", 0).due("reader(1)", 2).due("count(4)", 1);
            x.due(of.replace("#", "3"), 1).due("reader(6)", 1).due("reader(1)", 3).due("count(4)", 1);
        }
        // It takes the place of one that is at work, and of one that is DONE.
        s.midway().due("begin(0, 1, 0)", 0).each("reader(#)", 0, 1, 0, 0, 0, 0, 0, 0);
        s.done().due("begin(0, 1, 0)", 0).each("reader(#)", 0, 1, 0, 0, 0, 0, 0, 0).due("found(0)", STATE);
        s.midway().due("begin(0, 3, 0)", 1).each("reader(#)", 0, 3, 0, 0, 0, 0, 1, 0).due("found(2)", 2);
    }

    private void beginBadK() {
        for (String of : new String[] {"begin(0, #, 0)", "begin(1, #, 0)", "begin(2, #, 5)"}) {
            s.refused(s::midway, BAD, Sentences.outside(of, 1, 3));
            s.refused(s::done, BAD, Sentences.outside(of, 1, 3));
            s.refused(s::small, BAD, Sentences.outside(of, 1, 3));
            s.full().all(BAD, Sentences.outside(of, 1, 20)).due(of.replace("#", "20"), 1).due(of.replace("#", "1"), 0);
            // Without THINGS there is no k.
            s.world(0).judge(1, 1, 1).all(BAD, Sentences.outside(of, 1, 0)).due("count(4)", 0);
            s.world(1).all(BAD, Sentences.outside(of, 1, 1)).due(of.replace("#", "1"), 1);
        }
        // One THING more, one k more.
        s.small().due("begin(0, 4, 0)", BAD).due("thing()", 3).due("begin(0, 4, 0)", 1).due("begin(0, 5, 0)", BAD);
    }

    private void beginBadKind() {
        s.refused(s::midway, BAD, Sentences.outside("begin(#, 1, 0)", 0, 2));
        s.refused(s::midway, BAD, Sentences.outside("begin(#, 1, 1)", 0, 2));
        s.small().due("begin(0, 1, 0)", 0).due("reader(0)", 0).due("begin(2, 1, 1)", 0).due("reader(0)", 2);
    }

    private void beginBadH() {
        s.refused(s::midway, BAD, Sentences.outside("begin(2, 1, #)", 1, 10));
        s.refused(s::done, BAD, Sentences.outside("begin(2, 3, #)", 1, 10));
        for (int h = 1; h <= 10; h++) {
            s.small().due("begin(2, 1, " + h + ")", 0).due("count(4)", 1);
        }
    }

    private void beginHOfOtherKinds() {
        for (int kind = 0; kind <= 1; kind++) {
            s.refused(s::midway, BAD, Sentences.outside("begin(" + kind + ", 1, #)", 0, 0));
            s.refused(s::done, BAD, "begin(" + kind + ", 3, 1)", "begin(" + kind + ", 3, 10)");
            s.small().due("begin(" + kind + ", 1, 0)", 0).due("reader(0)", kind);
        }
    }

    private void round() {
        World x = s.small().due("begin(0, 1, 0)", 0).due("round()", 0).each("depth(#, 0)", 1, 1).due("reader(2)", 1);
        x.due("round()", 1).each("depth(#, 0)", 2, 2).due("reader(2)", 2).due("reader(6)", 1);
        World y = ladder().due("begin(0, 1, 0)", 0).due("round()", 0).due("depth(0, 0)", 1).due("round()", 1);
        y.due("depth(0, 0)", 2).due("found(0)", 19);
        // Each ROUND one place, to the last but one.
        y.due("begin(0, 19, 0)", 0);
        for (int round = 1; round < 20; round++) {
            y.due("depth(0, 0)", round - 1).due("round()", 0);
        }
        y.due("round()", 1).due("depth(0, 0)", 20).due("found(0)", 1);
    }

    private void roundNone() {
        s.refused(s::small, NONE, "round()", "round()");
        s.world(0).due("round()", NONE).due("count(4)", 0);
        s.midway().run("thing()").due("round()", NONE);
    }

    private void roundState() {
        s.refused(s::done, STATE, "round()", "round()");
        s.refused(() -> s.small().run("begin(1, 3, 0)"), STATE, "round()");
        s.small().due("begin(0, 1, 0)", 0).due("round()", 0).due("round()", 1).due("round()", STATE).due("reader(2)", 2);
        s.small().due("begin(0, 3, 0)", 1).due("round()", STATE).each("reader(#)", 0, 3, 0, 0, 0, 0, 1, 0);
    }

    private void finish() {
        World x = s.small().due("begin(0, 1, 0)", 0).due("finish()", 2).due("reader(6)", 1).due("reader(2)", 2);
        x.due("begin(0, 1, 0)", 0).due("round()", 0).due("finish()", 1).due("reader(2)", 2);
        World y = ladder();
        for (int k = 1; k < 20; k++) {
            y.due("begin(0, " + k + ", 0)", 0).due("finish()", k + 1).due("reader(2)", k + 1);
        }
        y.due("begin(0, 19, 0)", 0).due("round()", 0).due("round()", 0).due("round()", 0).due("finish()", 17);
        y.due("reader(2)", 20);
    }

    /** By GREATEST the first place of the first LIST makes it SURE. */
    private void finishCountsStopped() {
        World x = s.world(2).run("rule(2)").judge(1, 1, 1, 1000, 1).judge(1, 1, 1, 1000, 1);
        for (String begin : new String[] {"begin(0, 1, 0)", "begin(1, 1, 0)", "begin(2, 1, 1)"}) {
            x.due(begin, 0).due("finish()", 1).each("depth(#, 0)", 1, 0).due("reader(2)", 1);
        }
        // Stopped behind a looking UP.
        World y = s.world(2).run("rule(2)").judge(1, 1, 1, 10, 9).judge(1, 1, 1, 1000).judge(1, 1, 1, 1000);
        y.due("begin(1, 1, 0)", 0).due("finish()", 1).due("reader(4)", 1).due("reader(2)", 1);
    }

    private void finishNone() {
        s.refused(s::small, NONE, "finish()", "finish()");
        s.world(0).due("finish()", NONE).due("count(4)", 0);
        s.midway().run("list(1, 1, 1)").due("finish()", NONE);
    }

    private void finishState() {
        s.refused(s::done, STATE, "finish()", "finish()");
        s.refused(() -> s.small().run("begin(2, 3, 1)"), STATE, "finish()");
        s.small().due("begin(0, 1, 0)", 0).due("finish()", 2).due("finish()", STATE).due("reader(2)", 2);
        s.small().due("begin(0, 3, 0)", 1).due("finish()", STATE).each("reader(#)", 0, 3, 0, 0, 0, 0, 1, 0);
    }

    private void readerKindAndK() {
        World x = s.world(20);
        for (int k = 1; k <= 20; k++) {
            x.due("begin(0, " + k + ", 0)", 1).due("reader(0)", 0).due("reader(1)", k);
        }
        x.due("begin(1, 7, 0)", 1).due("reader(0)", 1).due("reader(1)", 7);
        x.due("begin(2, 8, 10)", 1).due("reader(0)", 2).due("reader(1)", 8);
        s.done().due("reader(0)", 1).due("reader(1)", 1);
    }

    private void readerRounds() {
        World x = ladder().due("begin(0, 19, 0)", 0);
        for (int round = 0; round < 10; round++) {
            x.due("reader(2)", round).due("round()", 0);
        }
        x.due("finish()", 10).due("reader(2)", 20).due("round()", STATE).due("reader(2)", 20);
        s.small().due("begin(0, 3, 0)", 1).due("reader(2)", 0);
        s.small().due("begin(1, 1, 0)", 0).due("round()", 0).due("reader(2)", 1).due("round()", 1).due("reader(2)", 2);
    }

    private void readerPlaces() {
        World x = s.small().due("begin(0, 1, 0)", 0).due("reader(3)", 0).due("round()", 0).due("reader(3)", 2);
        x.due("round()", 1).due("reader(3)", 4);
        // Looking UP is no place; a place is counted again in each LIST.
        s.midway().due("reader(3)", 2).due("reader(4)", 2);
        World most = s.world(20);
        for (int list = 0; list < 4; list++) {
            int[] marks = new int[20];
            for (int thing = 0; thing < 20; thing++) {
                marks[thing] = list < 3 ? 1 : thing + 1;
            }
            most.judge(1, 1, 0, marks);
        }
        most.due("begin(0, 19, 0)", 0).due("finish()", 20).due("reader(3)", 80);
    }

    private void readerLookUps() {
        s.small().due("begin(1, 1, 0)", 0).due("reader(4)", 0).due("round()", 0).due("reader(4)", 2).due("round()", 1)
            .due("reader(4)", 2);
        s.small().due("begin(0, 1, 0)", 0).due("finish()", 2).due("reader(4)", 0);
        s.small().due("begin(2, 1, 1)", 0).due("reader(4)", 0).due("round()", 0).due("reader(4)", 1);
        // That there is no MARK is looked UP as well.
        s.world(3).judge(1, 1, 1, 9, 4, 2).judge(1, 1, 2, 0, 3, 5).due("begin(1, 1, 0)", 0).due("round()", 0)
            .due("reader(4)", 2).due("known(1, 0)", 1);
    }

    private void readerCost() {
        s.small().due("begin(1, 1, 0)", 0).due("reader(5)", 0).due("round()", 0).due("reader(5)", 19).due("round()", 1)
            .due("reader(5)", 26);
        s.small().due("begin(0, 1, 0)", 0).due("round()", 0).due("reader(5)", 7).due("round()", 1).due("reader(5)", 14);
        // THINGS 1 and 2 may have 100 each: THING 1 is looked UP in LIST 1.
        s.small().due("begin(2, 1, 1)", 0).due("round()", 0).due("reader(5)", 14);
        s.small().due("begin(1, 3, 0)", 1).due("reader(5)", 0);
    }

    private void readerDone() {
        s.small().due("begin(0, 1, 0)", 0).due("reader(6)", 0).due("round()", 0).due("reader(6)", 0).due("round()", 1)
            .due("reader(6)", 1);
        s.small().due("begin(0, 3, 0)", 1).due("reader(6)", 1).due("begin(0, 2, 0)", 0).due("reader(6)", 0)
            .due("finish()", 2).due("reader(6)", 1);
    }

    private void readerThings() {
        // Twice at a place, and looked UP as well: once counted. THING 0 is KNOWN by the whole ROW only.
        s.small().due("begin(1, 1, 0)", 0).due("reader(7)", 0).due("round()", 0).due("reader(7)", 2).due("round()", 1)
            .due("reader(7)", 2).due("known(1, 0)", 1);
        World x = ladder().due("begin(0, 19, 0)", 0);
        for (int round = 0; round < 20; round++) {
            x.due("reader(7)", round).run("round()");
        }
        x.due("reader(7)", 20);
        s.small().due("begin(0, 3, 0)", 1).due("reader(7)", 0);
    }

    private void readerNone() {
        s.refused(s::midway, NONE, Sentences.outside("reader(#)", 0, 7));
        s.refused(s::done, NONE, Sentences.outside("reader(#)", 0, 7));
        s.small().each("reader(#)", NONE, NONE, NONE, NONE, NONE, NONE, NONE, NONE).all(NONE, "reader(-1)", "reader(8)");
        s.world(0).due("reader(0)", NONE).due("reader(6)", NONE);
    }

    private void depth() {
        World x = s.small().due("begin(0, 1, 0)", 0).each("depth(#, 0)", 0, 0).due("round()", 0).each("depth(#, 0)", 1, 1);
        x.due("round()", 1).each("depth(#, 0)", 2, 2);
        s.full().each("depth(#, 0)", 1, 1, 0, 1);
        ladder().due("begin(0, 19, 0)", 0).due("finish()", 20).due("depth(0, 0)", 20);
    }

    private void depthTop() {
        World x = s.small().due("begin(0, 1, 0)", 0).each("depth(#, 1)", 1000, 1000).due("round()", 0);
        x.each("depth(#, 1)", 30, 40).due("round()", 1).each("depth(#, 1)", 20, 0);
        s.full().each("depth(#, 1)", 5, 7, 0, 0);
        ladder().due("begin(0, 19, 0)", 0).due("depth(0, 1)", 1000).due("finish()", 20).due("depth(0, 1)", 0);
    }

    private void depthNone() {
        s.refused(s::midway, NONE, Sentences.outside("depth(#, 0)", 0, 1));
        s.refused(s::midway, NONE, Sentences.outside("depth(0, #)", 0, 1));
        s.full().all(NONE, Sentences.outside("depth(#, 1)", 0, 3)).all(NONE, Sentences.outside("depth(3, #)", 0, 1));
        s.small().all(NONE, "depth(0, 0)", "depth(1, 1)");
        s.world(1).due("begin(0, 1, 0)", 1).due("depth(0, 0)", NONE);
    }

    private void known() {
        World x = s.small().due("begin(0, 1, 0)", 0).each("known(0, #)", 0, 0, 0).each("known(1, #)", 0, 0, 0);
        x.due("round()", 0).each("known(0, #)", 0, 1, 0).each("known(1, #)", 0, 0, 1);
        x.due("round()", 1).each("known(0, #)", 0, 1, 1).each("known(1, #)", 1, 1, 1);
        World y = s.full().due("known(3, 0)", 1).due("known(3, 19)", 1).due("known(2, 19)", 1).due("known(0, 19)", 0);
        y.due("known(0, 0)", 1).due("known(0, 1)", 0);
    }

    private void knownNone() {
        s.refused(s::midway, NONE, Sentences.outside("known(#, 0)", 0, 1));
        s.refused(s::midway, NONE, Sentences.outside("known(0, #)", 0, 2));
        s.full().all(NONE, Sentences.outside("known(#, 0)", 0, 3)).all(NONE, Sentences.outside("known(3, #)", 0, 19));
        s.small().all(NONE, "known(0, 0)", "known(1, 2)");
        s.world(1).due("begin(0, 1, 0)", 1).due("known(0, 0)", NONE);
    }

    private void bound() {
        World x = s.midway().each("bound(#, 0)", 0, 75, 80).each("bound(#, 1)", 100, 75, 80);
        x.due("finish()", 1).each("bound(#, 0)", 0, 75, 80).each("bound(#, 1)", 40, 75, 80);
        World y = s.full().each("bound(#, 0)", 6, 14, 0).each("bound(#, 1)", 20, 19, 19);
        y.due("bound(19, 0)", 0).due("bound(19, 1)", 19);
    }

    private void boundNone() {
        s.refused(s::midway, NONE, Sentences.outside("bound(#, 0)", 0, 2));
        s.refused(s::midway, NONE, Sentences.outside("bound(#, 2)", 0, 2));
        s.full().all(NONE, Sentences.outside("bound(#, 1)", 0, 19));
        s.small().all(NONE, "bound(0, 0)", "bound(0, 1)", "bound(0, 2)", "bound(0, -1)");
        s.world(0).judge(1, 1, 1).due("bound(0, 0)", NONE);
    }

    private void boundBad() {
        s.refused(s::midway, BAD, Sentences.outside("bound(0, #)", 0, 1));
        s.refused(s::done, BAD, Sentences.outside("bound(2, #)", 0, 1));
    }

    private void ahead() {
        World x = s.midway().due("ahead(2, 1)", 1).due("ahead(1, 2)", 0).due("ahead(2, 0)", 0).due("ahead(0, 2)", 0);
        x.due("finish()", 1).due("ahead(2, 0)", 1).due("ahead(1, 0)", 1).due("ahead(0, 1)", 0).due("ahead(0, 2)", 0);
        World y = s.world(20).due("begin(0, 1, 0)", 1).due("ahead(0, 19)", 1).due("ahead(19, 0)", 0).due("ahead(18, 19)", 1);
        y.due("ahead(19, 18)", 0);
    }

    private void aheadNone() {
        s.refused(s::midway, NONE, Sentences.outside("ahead(#, 0)", 0, 2));
        s.refused(s::midway, NONE, Sentences.outside("ahead(0, #)", 0, 2));
        s.refused(s::midway, NONE, Sentences.outside("ahead(#, #)", 0, 2));
        s.full().all(NONE, Sentences.outside("ahead(#, 0)", 0, 19)).all(NONE, Sentences.outside("ahead(0, #)", 0, 19));
        s.small().all(NONE, "ahead(0, 1)", "ahead(2, 1)", "ahead(0, 0)");
        s.world(0).all(NONE, "ahead(0, 1)", "ahead(0, 0)");
    }

    private void aheadBad() {
        s.refused(s::midway, BAD, "ahead(0, 0)", "ahead(1, 1)", "ahead(2, 2)");
        s.full().all(BAD, "ahead(0, 0)", "ahead(19, 19)");
        s.world(1).due("begin(0, 1, 0)", 1).due("ahead(0, 0)", BAD);
    }

    private void found() {
        s.done().due("found(0)", 2);
        // THING 2 is better than THING 1, but its number is greater.
        s.small().due("begin(0, 2, 0)", 0).due("finish()", 2).each("found(#)", 1, 2, NONE);
        World x = ladder();
        for (int k = 1; k < 20; k++) {
            x.run("begin(0, " + k + ", 0)", "finish()").due("found(0)", 20 - k).due("found(" + (k - 1) + ")", 19);
        }
        x.due("begin(0, 20, 0)", 1).due("found(0)", 0).due("found(19)", 19).due("found(20)", NONE);
    }

    private void foundNone() {
        s.refused(s::done, NONE, Sentences.outside("found(#)", 0, 0));
        s.refused(s::midway, NONE, Sentences.outside("found(#)", 0, 0));
        s.refused(() -> s.small().run("begin(0, 2, 0)", "finish()"), NONE, Sentences.outside("found(#)", 0, 1));
        s.refused(() -> s.small().run("begin(0, 3, 0)"), NONE, Sentences.outside("found(#)", 0, 2));
        s.small().all(NONE, "found(0)", "found(1)");
        s.done().run("thing()").due("found(0)", NONE);
    }

    private void foundState() {
        s.refused(s::midway, STATE, "found(0)");
        s.refused(() -> s.small().run("begin(0, 2, 0)"), STATE, "found(0)", "found(1)");
        s.small().due("begin(0, 1, 0)", 0).due("found(0)", STATE).due("round()", 0).due("found(0)", STATE)
            .due("round()", 1).due("found(0)", 2);
    }
}
