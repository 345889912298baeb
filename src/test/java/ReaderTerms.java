/** The Terms of part 2: what a READER SAW, bounds, ROUNDS, COST, and when it is no more. */
final class ReaderTerms {
    private static final int NONE = World.NONE;
    private final Sentences s;

    ReaderTerms(Sentences s) {
        this.s = s;
    }

    void tell() {
        s.section("Terms");
        s.holds("A READER is at work, or none.", this::atWorkOrNone);
        s.holds("What it SAW: the first so many places of each LIST's ROW (its DEPTH there),", this::firstPlaces);
        s.holds("and what it looked UP: MARKS of THINGS in LISTS, or that there is none.", this::lookedUp);
        s.holds("A THING's MARK in a LIST is KNOWN if it stands at a place that was SEEN,", this::knownBySeeing);
        s.holds("or was looked UP,", this::knownByLookingUp);
        s.holds("or if the DEPTH is the whole ROW (none then, if it is not in it).", this::knownByWholeRow);
        s.holds("The TOP of a LIST: the MARK at the last place that was SEEN;", this::topIsLastSeen);
        s.holds("1000 with DEPTH 0;", this::topAtDepth0);
        s.holds("0 if the DEPTH is the whole ROW.", this::topOfWholeRow);
        s.holds("LOW of a THING: its TOTAL with KNOWN MARKS, others 0;", this::low);
        s.holds("HIGH: with KNOWN MARKS, others the TOP of their LIST.", this::high);
        s.holds("A THING is AHEAD of another one for sure if its LOW is above the other's HIGH,", this::aheadAbove);
        s.holds("or that, and its number is less.", this::aheadAlike);
        s.holds("It is SURE if there are k THINGS of which each is AHEAD for sure of each other THING but these k",
            this::sureNeedsEach);
        s.holds("(k THINGS there are; they are THE FOUND then).", this::found);
        s.holds("A READER begins with k and a KIND; DEPTHS are 0, nothing was looked UP;", this::beginsAnew);
        s.holds("it is DONE as soon as it is SURE, at once perhaps.", this::doneAtOnce);
        s.holds("It works in ROUNDS: 0 DOWNWARD: for each LIST in order that has a place that was not SEEN, "
            + "the next place is SEEN.", this::downward);
        s.holds("1 THRESHOLD: likewise; behind each place that is SEEN the THING there is looked UP in each LIST, in order, "
            + "that has UP and in which its MARK is not KNOWN.", this::threshold);
        s.holds("2 MIXED, with h: like 0; in each h-th ROUND (the h-th, 2 h-th, ..) behind that:", this::eachHthRound);
        s.holds("of the THINGS that were SEEN at some place", this::mixedTakesSeenOnes);
        s.holds("and of which some MARK is not KNOWN in a LIST with UP", this::mixedTakesOpenOnes);
        s.holds("the one with the greatest HIGH,", this::mixedTakesGreatestHigh);
        s.holds("of alike ones the least:", this::mixedTakesLeastOfAlike);
        s.holds("it is looked UP in all of these LISTS, in order.", this::mixedLooksInAll);
        s.holds("A ROUND stops as soon as it is SURE;", this::roundStops);
        s.holds("that is looked at behind each place and each looking UP.", this::behindEachPlaceAndLookUp);
        s.holds("If all places of all LISTS were SEEN it is SURE.", this::allSeenIsSure);
        s.holds("COST: DOWN for each place that was SEEN, UP for each looking UP, of their LISTS.", this::cost);
        s.holds("When a MARK comes, goes or becomes another one,", this::marksEndIt);
        s.holds("a LIST, THING, or THE RULE changes,", this::othersEndIt);
        s.holds("the READER is no more (what it SAW, COST and FOUND are told no longer).", this::toldNoLonger);
    }

    /** 20 THINGS that two LISTS judge in opposite orders, from 100 down to 81: each TOTAL is 181. */
    private World opposites() {
        World x = s.world(20);
        int[] falling = new int[20], rising = new int[20];
        for (int thing = 0; thing < 20; thing++) {
            falling[thing] = 100 - thing;
            rising[thing] = 81 + thing;
        }
        return x.judge(1, 1, 1, falling).judge(1, 1, 1, rising);
    }

    private void atWorkOrNone() {
        s.world(0).due("count(4)", 0).due("reader(0)", NONE);
        World x = s.small().due("count(4)", 0).due("reader(0)", NONE);
        x.due("begin(1, 1, 0)", 0).due("count(4)", 1).due("reader(0)", 1);
        x.due("finish()", 2).due("count(4)", 1).due("reader(0)", 1);
        x.due("begin(2, 2, 3)", 0).due("count(4)", 1).due("reader(0)", 2).due("reader(1)", 2);
        x.due("rule(1)", 0).due("count(4)", 0).due("reader(0)", NONE);
    }

    private void firstPlaces() {
        World x = opposites().due("begin(0, 1, 0)", 0);
        for (int depth = 0; depth < 20; depth++) {
            x.due("depth(0, 0)", depth).due("depth(1, 0)", depth).due("reader(3)", 2 * depth);
            x.due("known(0, " + depth + ")", 0).due("known(1, " + (19 - depth) + ")", 0);
            x.run("round()");
            x.due("known(0, " + depth + ")", 1).due("known(1, " + (19 - depth) + ")", 1);
        }
        x.due("depth(0, 0)", 20).due("depth(1, 0)", 20).due("reader(6)", 1);
    }

    /** The second LIST says nothing of THING 0, and its ROW is not SEEN to its end. */
    private void lookedUp() {
        World x = s.world(3).judge(1, 1, 1, 9, 4, 2).judge(1, 1, 2, 0, 3, 5);
        x.due("begin(1, 1, 0)", 0).each("bound(#, 1)", 2000, 2000, 2000).due("round()", 0);
        x.due("reader(4)", 2).due("reader(5)", 5).due("depth(1, 0)", 1);
        x.each("known(0, #)", 1, 0, 1).each("known(1, #)", 1, 0, 1);
        x.each("bound(#, 0)", 9, 0, 7).each("bound(#, 1)", 9, 14, 7);
    }

    private void knownBySeeing() {
        World x = s.world(4).judge(1, 1, 0, 10, 20, 30, 40).judge(1, 1, 0, 40, 30, 20, 10);
        x.due("begin(0, 1, 0)", 0).each("known(0, #)", 0, 0, 0, 0).each("known(1, #)", 0, 0, 0, 0);
        x.due("round()", 0).each("known(0, #)", 0, 0, 0, 1).each("known(1, #)", 1, 0, 0, 0);
        x.due("round()", 0).each("known(0, #)", 0, 0, 1, 1).each("known(1, #)", 1, 1, 0, 0);
    }

    private void knownByLookingUp() {
        World x = s.small().due("begin(1, 1, 0)", 0).each("known(0, #)", 0, 0, 0).each("known(1, #)", 0, 0, 0);
        x.due("round()", 0).due("depth(0, 0)", 1).due("depth(1, 0)", 1);
        x.each("known(0, #)", 0, 1, 1).each("known(1, #)", 0, 1, 1);
    }

    private void knownByWholeRow() {
        World x = s.world(3).judge(1, 1, 0, 30, 20, 0).judge(1, 1, 0, 5, 6, 7).judge(1, 1, 0);
        x.due("begin(0, 1, 0)", 0).each("known(2, #)", 1, 1, 1);
        x.due("round()", 0).each("known(0, #)", 1, 0, 0).due("bound(2, 1)", 37);
        x.due("round()", 1).each("known(0, #)", 1, 1, 1).each("known(1, #)", 0, 0, 1);
        x.due("bound(2, 0)", 7).due("bound(2, 1)", 7);
    }

    private void topIsLastSeen() {
        World x = s.world(4).judge(1, 1, 0, 40, 30, 20, 10).judge(1, 1, 0, 1, 20, 30, 40);
        x.due("begin(0, 2, 0)", 0).due("round()", 0).due("depth(0, 1)", 40).due("depth(1, 1)", 40);
        x.due("round()", 0).due("depth(0, 1)", 30).due("depth(1, 1)", 30);
        x.due("round()", 0).due("depth(0, 0)", 3).due("depth(0, 1)", 20).due("depth(1, 1)", 20);
    }

    private void topAtDepth0() {
        World x = s.world(2).judge(10, 1, 0, 4, 5).due("begin(0, 1, 0)", 0);
        x.due("depth(0, 0)", 0).due("depth(0, 1)", 1000).each("bound(#, 1)", 10000, 10000);
        x.due("finish()", 2).due("begin(0, 1, 0)", 0).due("depth(0, 1)", 1000);
        s.world(2).judge(1, 1, 0, 4).run("begin(0, 2, 0)").due("depth(0, 1)", 1000);
    }

    private void topOfWholeRow() {
        World x = s.world(2).judge(1, 1, 0, 0, 7).due("begin(0, 1, 0)", 0).due("depth(0, 1)", 1000);
        x.due("round()", 1).due("depth(0, 0)", 1).due("depth(0, 1)", 0).each("bound(#, 1)", 0, 7);
        World full = opposites().run("begin(0, 1, 0)");
        for (int round = 1; round <= 19; round++) {
            full.due("round()", 0);
        }
        full.due("depth(0, 0)", 19).due("depth(0, 1)", 82).due("round()", 1).due("depth(0, 0)", 20).due("depth(0, 1)", 0);
        // An empty ROW is whole with DEPTH 0.
        World empty = s.world(2).judge(1, 1, 0).judge(1, 1, 0, 3, 3).due("begin(0, 1, 0)", 0);
        empty.due("depth(0, 0)", 0).due("depth(0, 1)", 0).due("depth(1, 1)", 1000).each("bound(#, 1)", 1000, 1000);
    }

    /** Behind the first ROUND THING 1 is KNOWN, by either LIST, and THING 0 is not. */
    private World halfKnown(int rule) {
        return s.world(2).judge(2, 1, 0, 10, 20).judge(1, 1, 0, 30, 40).judge(0, 1, 0, 1, 2)
            .run("rule(" + rule + ")").due("begin(0, 1, 0)", 0);
    }

    private void low() {
        int[][] behindRound1 = {{0, 80}, {0, 20}, {0, 40}};
        int[][] behindRound2 = {{20, 80}, {0, 20}, {30, 40}};
        for (int rule = 0; rule <= 2; rule++) {
            World x = halfKnown(rule).each("bound(#, 0)", 0, 0);
            x.due("round()", 0).each("bound(#, 0)", behindRound1[rule]);
            x.due("round()", 1).each("bound(#, 0)", behindRound2[rule]);
        }
    }

    private void high() {
        int[][] first = {{3000, 3000}, {1000, 1000}, {1000, 1000}};
        int[][] behindRound1 = {{80, 80}, {20, 20}, {40, 40}};
        int[][] behindRound2 = {{60, 80}, {10, 20}, {30, 40}};
        for (int rule = 0; rule <= 2; rule++) {
            World x = halfKnown(rule).each("bound(#, 1)", first[rule]);
            x.due("round()", 0).each("bound(#, 1)", behindRound1[rule]);
            x.due("round()", 1).each("bound(#, 1)", behindRound2[rule]);
        }
        // THINGS 1 and 2 were looked UP: what is KNOWN is less than the TOP.
        s.midway().each("depth(#, 1)", 30, 40).each("bound(#, 1)", 100, 75, 80);
        World most = s.world(1);
        for (int list = 0; list < 4; list++) {
            most.judge(10, 1, 0, 1);
        }
        most.due("begin(0, 1, 0)", 1).due("bound(0, 0)", 0).due("bound(0, 1)", 40000);
    }

    /** Behind two ROUNDS: THING 2 has 51, THING 0 has 50, the others have up to 50. */
    private void aheadAbove() {
        World x = s.world(4).judge(1, 1, 0, 50, 50, 51, 49).due("begin(0, 1, 0)", 0);
        x.due("ahead(2, 0)", 0).due("round()", 0);
        // 51 against up to 51.
        x.due("ahead(2, 0)", 0).due("ahead(2, 1)", 0);
        x.due("round()", 1).due("ahead(2, 0)", 1).due("ahead(2, 1)", 1).due("ahead(2, 3)", 1);
        x.due("ahead(0, 2)", 0).due("ahead(1, 2)", 0).due("ahead(3, 2)", 0);
    }

    private void aheadAlike() {
        World x = s.world(4).judge(1, 1, 0, 50, 50, 51, 49).due("begin(0, 3, 0)", 0);
        x.due("round()", 0).due("ahead(2, 3)", 1).due("ahead(2, 1)", 0);
        x.due("round()", 0).due("ahead(0, 1)", 1).due("ahead(0, 3)", 1).due("ahead(1, 0)", 0).due("ahead(3, 1)", 0);
        x.due("round()", 1).due("ahead(0, 1)", 1).due("ahead(1, 0)", 0).due("ahead(1, 3)", 1).due("ahead(3, 1)", 0);
        // All LOWS and HIGHS are 0.
        s.world(2).due("begin(0, 1, 0)", 1).due("ahead(0, 1)", 1).due("ahead(1, 0)", 0);
    }

    private void sureNeedsEach() {
        World x = s.world(3).judge(1, 1, 0, 30, 20, 20);
        x.due("begin(0, 1, 0)", 0).due("round()", 1);
        // The first one of two is AHEAD of all, the second one is not yet.
        x.due("begin(0, 2, 0)", 0).due("round()", 0).due("ahead(0, 1)", 1).due("ahead(0, 2)", 1).due("round()", 1);
        World y = s.world(3).judge(1, 1, 0, 20, 20, 30);
        // Alike to what the others may have, and its number is greater.
        y.due("begin(0, 1, 0)", 0).due("round()", 0).due("round()", 1);
        y.due("begin(0, 2, 0)", 0).due("round()", 0).due("round()", 1);
        // AHEAD of the one but not of the other.
        World z = s.world(3).judge(1, 1, 0, 20, 30, 10);
        z.due("begin(0, 1, 0)", 0).due("round()", 0).due("ahead(1, 2)", 1).due("ahead(1, 0)", 0).due("round()", 1);
    }

    private void found() {
        World x = s.world(3).judge(1, 1, 0, 20, 20, 30);
        x.run("begin(0, 1, 0)", "finish()").each("found(#)", 2, NONE);
        x.run("begin(0, 2, 0)", "finish()").each("found(#)", 0, 2, NONE);
        x.due("begin(0, 3, 0)", 1).each("found(#)", 0, 1, 2, NONE);
        World all = s.world(20).judge(1, 1, 1, 0, 5).due("begin(1, 20, 0)", 1);
        for (int i = 0; i < 20; i++) {
            all.due("found(" + i + ")", i);
        }
        all.due("found(20)", NONE);
    }

    private void beginsAnew() {
        for (String begin : new String[] {"begin(0, 2, 0)", "begin(1, 2, 0)", "begin(2, 2, 10)"}) {
            World x = s.done().due(begin, 0).due("reader(0)", begin.charAt(6) - '0').due("reader(1)", 2);
            x.each("depth(#, 0)", 0, 0).each("depth(#, 1)", 1000, 1000).due("reader(6)", 0);
            x.each("known(0, #)", 0, 0, 0).each("known(1, #)", 0, 0, 0);
            x.each("bound(#, 0)", 0, 0, 0).each("bound(#, 1)", 3000, 3000, 3000);
            x.due("reader(2)", 0).due("reader(3)", 0).due("reader(4)", 0).due("reader(5)", 0).due("reader(7)", 0);
        }
    }

    private void doneAtOnce() {
        World[] sureAtOnce = {
            s.world(3),
            s.world(3).judge(1, 1, 1).judge(5, 1, 1),
            s.world(3).judge(0, 1, 1, 1, 2, 3).judge(0, 1, 1, 3, 2, 1),
            // By LEAST an empty ROW makes each TOTAL 0.
            s.world(3).judge(1, 1, 1, 1, 2, 3).judge(1, 1, 1).run("rule(1)")};
        for (World x : sureAtOnce) {
            for (int kind = 0; kind <= 2; kind++) {
                x.due("begin(" + kind + ", 2, " + kind / 2 + ")", 1).due("reader(6)", 1).each("found(#)", 0, 1, NONE);
                x.due("reader(2)", 0).due("reader(3)", 0).due("reader(4)", 0).due("reader(5)", 0);
            }
        }
        s.small().due("begin(0, 3, 0)", 1).due("reader(6)", 1).due("begin(0, 2, 0)", 0).due("reader(6)", 0);
        s.world(1).judge(1, 1, 1, 9).due("begin(0, 1, 0)", 1).due("depth(0, 0)", 0).due("found(0)", 0);
        s.world(2).judge(1, 1, 1, 0, 1).due("begin(0, 1, 0)", 0).due("round()", 1).due("reader(6)", 1);
    }

    /** The second ROW is empty, the third one has one place. */
    private void downward() {
        World x = s.world(3).judge(1, 1, 9, 2, 3, 1).judge(1, 1, 9).judge(1, 1, 9, 0, 0, 9);
        x.due("begin(0, 2, 0)", 0).due("round()", 0).each("depth(#, 0)", 1, 0, 1);
        x.due("round()", 1).each("depth(#, 0)", 2, 0, 1).due("reader(3)", 3).due("reader(4)", 0);
        // By GREATEST the place of the first LIST in order is enough.
        World y = s.world(2).run("rule(2)").judge(1, 1, 0, 1000).judge(1, 1, 0, 1000).due("begin(0, 1, 0)", 0);
        y.due("round()", 1).each("depth(#, 0)", 1, 0);
    }

    private void threshold() {
        World x = s.small().due("begin(1, 1, 0)", 0).due("round()", 0).each("depth(#, 0)", 1, 1).due("reader(4)", 2);
        x.each("known(0, #)", 0, 1, 1).each("known(1, #)", 0, 1, 1);
        // All MARKS of the THINGS at the next places are KNOWN: nothing is looked UP again.
        x.due("round()", 1).each("depth(#, 0)", 2, 2).due("reader(4)", 2);
        // The second ROW is empty, and the third LIST has no UP.
        World y = s.world(2).judge(1, 1, 1, 4, 5).judge(1, 1, 1).judge(1, 1, 0, 5, 4).due("begin(1, 1, 0)", 0);
        y.due("round()", 0).each("depth(#, 0)", 1, 0, 1).due("reader(4)", 1).each("known(0, #)", 1, 1);
        y.each("known(2, #)", 1, 0);
        // In order: SURE behind looking UP in the second LIST, ahead of the third one.
        World z = s.world(2).run("rule(2)").judge(1, 1, 1, 10, 9).judge(1, 1, 1, 1000, 1).judge(1, 1, 1, 1000, 1);
        z.due("begin(1, 1, 0)", 0).due("round()", 1).due("reader(4)", 1).due("known(1, 0)", 1).due("known(2, 0)", 0);
    }

    private void eachHthRound() {
        lookUpsOf("begin(2, 1, 10)", 0, 0, 0, 0, 0, 0, 0, 0, 0, 1, 1, 1, 1, 1, 1, 1, 1, 1, 1).due("round()", 1)
            .due("reader(2)", 20).due("reader(3)", 39).due("reader(4)", 1);
        lookUpsOf("begin(2, 1, 9)", 0, 0, 0, 0, 0, 0, 0, 0, 1, 1, 1, 1, 1, 1, 1, 1, 1, 2).due("round()", 1)
            .due("reader(2)", 19).due("reader(3)", 38).due("reader(4)", 2);
        lookUpsOf("begin(2, 1, 3)", 0, 0, 1, 1, 1, 2, 2, 2, 3, 3);
        lookUpsOf("begin(2, 1, 2)", 0, 1, 1, 2, 2, 3, 3, 4);
        lookUpsOf("begin(2, 1, 1)", 1, 2, 3, 4, 5, 6, 7, 8);
        // Each READER counts its own ROUNDS.
        World x = opposites().run("begin(2, 1, 2)", "round()", "begin(2, 1, 2)", "round()").due("reader(4)", 0);
        x.due("round()", 0).due("reader(4)", 1);
    }

    private World lookUpsOf(String begin, int... want) {
        World x = opposites().due(begin, 0);
        for (int lookUps : want) {
            x.due("round()", 0).due("reader(4)", lookUps);
        }
        return x;
    }

    /** THING 0 stands at no place that was SEEN; its HIGH is alike, and its number is the least. */
    private void mixedTakesSeenOnes() {
        World x = s.world(3).judge(1, 1, 1, 10, 50, 40).judge(1, 1, 1, 10, 40, 50);
        x.due("begin(2, 1, 1)", 0).due("round()", 0).each("bound(#, 0)", 0, 90, 50).each("bound(#, 1)", 100, 90, 100);
        x.due("reader(4)", 1).each("known(0, #)", 0, 1, 0).each("known(1, #)", 0, 1, 1);
    }

    private void mixedTakesOpenOnes() {
        // What is not KNOWN of THING 0 is in the LIST without UP only.
        World x = s.world(2).judge(1, 1, 1, 50, 40).judge(1, 1, 0, 40, 50).due("begin(2, 1, 1)", 0);
        x.due("round()", 0).due("reader(4)", 1).each("known(0, #)", 1, 1).each("known(1, #)", 0, 1);
        // All of THING 0 is KNOWN behind the second ROUND, and its HIGH is the greatest one.
        World y = s.world(3).judge(1, 1, 1, 450, 100, 500).judge(1, 1, 1, 400, 300, 50).due("begin(2, 2, 2)", 0);
        y.due("round()", 0).due("reader(4)", 0).due("round()", 0).each("bound(#, 1)", 850, 750, 550);
        y.due("reader(4)", 1).each("known(0, #)", 1, 0, 1).each("known(1, #)", 1, 1, 1);
        // There is no such THING in the first ROUND: the whole of each LIST with UP is SEEN.
        World z = s.world(2).judge(1, 1, 1, 0, 50).judge(1, 1, 0, 60, 55).due("begin(2, 1, 1)", 0);
        z.due("round()", 0).due("reader(4)", 0).due("finish()", 1).due("reader(4)", 0).due("found(0)", 1);
    }

    /** Behind the second ROUND HIGH is 850, 750, 800, 750; all of THING 0 is KNOWN, THING 3 was not SEEN. */
    private void mixedTakesGreatestHigh() {
        World x = s.world(4).judge(1, 1, 1, 450, 100, 500, 90).judge(1, 1, 1, 400, 300, 50, 60).due("begin(2, 2, 2)", 0);
        x.due("round()", 0).due("round()", 0).due("reader(4)", 1);
        x.each("known(0, #)", 1, 0, 1, 0).each("known(1, #)", 1, 1, 1, 0);
        // The same with numbers turned round: the greatest HIGH has THING 1, and THING 2 less.
        World y = s.world(4).judge(1, 1, 1, 90, 500, 100, 450).judge(1, 1, 1, 60, 50, 300, 400).due("begin(2, 2, 2)", 0);
        y.due("round()", 0).due("round()", 0).due("reader(4)", 1);
        y.each("known(0, #)", 0, 1, 0, 1).each("known(1, #)", 0, 1, 1, 1);
        // HIGH 140, 111, 101, 101, but LOW 50, 100, 11, 90.
        World w = s.world(4).judge(1, 1, 1, 50, 5, 11, 4).judge(1, 1, 1, 20, 100, 10, 90).due("begin(2, 1, 2)", 0);
        w.due("round()", 0).due("round()", 0).due("reader(4)", 1).each("known(0, #)", 1, 0, 1, 0).each("known(1, #)", 1, 1, 0, 1);
        // By LEAST the greatest HIGH is 0: THINGS 0 and 3 are not in the first ROW, and of 1 and 2 nothing can be looked UP.
        World z = s.world(4).run("rule(1)").judge(1, 1, 0, 0, 50, 40).judge(1, 1, 0, 90, 10, 20, 80).judge(1, 1, 1, 5, 60, 50, 4);
        z.due("begin(2, 1, 2)", 0).due("round()", 0).due("round()", 0).each("bound(#, 1)", 0, 50, 40, 0);
        z.due("reader(4)", 1).each("known(2, #)", 1, 1, 1, 0);
    }

    private void mixedTakesLeastOfAlike() {
        World x = s.world(4).judge(1, 1, 1, 1, 50, 40, 60).judge(1, 1, 1, 60, 40, 50, 1).due("begin(2, 2, 1)", 0);
        x.due("round()", 0).due("reader(4)", 1).each("known(0, #)", 1, 0, 0, 1).each("known(1, #)", 1, 0, 0, 0);
        World y = s.world(3).judge(1, 1, 1, 1, 50, 40).judge(1, 1, 1, 1, 40, 50).due("begin(2, 1, 1)", 0);
        y.due("round()", 0).due("reader(4)", 1).due("known(1, 1)", 1).due("known(0, 2)", 0);
    }

    /** THING 0 is SEEN in LIST 1 only, and LIST 3 has no UP. */
    private void mixedLooksInAll() {
        World x = s.world(3).judge(1, 1, 2, 10, 50, 20).judge(1, 1, 3, 50, 10, 20).judge(1, 1, 5, 10, 50, 20)
            .judge(1, 1, 0, 10, 50, 20).due("begin(2, 1, 1)", 0).due("round()", 0);
        x.due("reader(3)", 4).due("reader(4)", 2).due("reader(5)", 11).each("known(#, 0)", 1, 1, 1, 0);
        // In order: SURE behind looking UP in LIST 1, ahead of LIST 2.
        World y = s.world(2).judge(1, 1, 1, 900, 20).judge(1, 1, 3, 1, 1000).judge(0, 1, 5, 1, 2).due("begin(2, 1, 1)", 0);
        y.due("round()", 1).due("reader(4)", 1).due("reader(5)", 6).due("known(1, 0)", 1).due("known(2, 0)", 0);
    }

    /** By GREATEST a MARK of 1000 of THING 0 makes it SURE, wherever it is SEEN first. */
    private void roundStops() {
        for (int list = 0; list < 4; list++) {
            World x = s.world(2).run("rule(2)");
            for (int other = 0; other < 4; other++) {
                x.judge(1, 1, 0, other == list ? 1000 : 5, 5);
            }
            x.due("begin(0, 1, 0)", 0).due("round()", 1).due("reader(3)", list + 1).due("reader(2)", 1);
            for (int other = 0; other < 4; other++) {
                x.due("depth(" + other + ", 0)", other <= list ? 1 : 0);
            }
        }
    }

    private void behindEachPlaceAndLookUp() {
        // SURE behind the place: THRESHOLD and MIXED look nothing UP.
        for (String begin : new String[] {"begin(1, 1, 0)", "begin(2, 1, 1)"}) {
            World x = s.world(2).run("rule(2)").judge(1, 1, 1, 1000).judge(1, 1, 1, 7, 7).due(begin, 0);
            x.due("round()", 1).due("reader(3)", 1).due("reader(4)", 0).due("reader(5)", 1);
        }
        // SURE behind the first of two LISTS in which THRESHOLD looks UP.
        World y = s.world(2).run("rule(2)").judge(1, 1, 1, 10, 9).judge(1, 1, 1, 1000).judge(1, 1, 1, 1000);
        y.due("begin(1, 1, 0)", 0).due("round()", 1).due("reader(3)", 1).due("reader(4)", 1).due("reader(5)", 2);
        // SURE behind the last of them: the next place is not SEEN.
        World z = s.world(2).run("rule(2)").judge(1, 1, 1, 10, 9).judge(1, 1, 1, 9, 9).judge(1, 1, 1, 1000);
        z.due("begin(1, 1, 0)", 0).due("round()", 1).due("reader(3)", 1).due("reader(4)", 2).due("reader(5)", 3);
        // MIXED, SURE behind the first of two.
        World m = s.world(2).judge(1, 1, 1, 900, 20).judge(1, 1, 3, 1, 1000).judge(0, 1, 5, 1, 2);
        m.due("begin(2, 1, 1)", 0).due("round()", 1).due("reader(4)", 1);
    }

    /** By the last LIST THING 0 is the last one, and by the others all are alike: the last place of all tells it. */
    private World toTheLastPlace(int lists, int price) {
        World x = s.world(20);
        int[] alike = new int[20], rising = new int[20];
        for (int thing = 0; thing < 20; thing++) {
            alike[thing] = 1;
            rising[thing] = thing + 1;
        }
        for (int list = 1; list < lists; list++) {
            x.judge(1, price, price, alike);
        }
        return x.judge(1, price, price, rising);
    }

    private void allSeenIsSure() {
        World x = toTheLastPlace(2, 1).due("begin(0, 19, 0)", 0).due("finish()", 20).due("reader(3)", 40);
        x.due("found(0)", 1).due("found(18)", 19);
        x.due("enough(19, 20, 19, 0, 0)", 0);
        for (int rule = 0; rule <= 2; rule++) {
            x.run("rule(" + rule + ")");
            for (int k = 1; k <= 20; k++) {
                x.due("enough(" + k + ", 20, 20, 0, 0)", 1);
            }
        }
        World alike = opposites();
        for (int k = 1; k < 20; k++) {
            alike.due("begin(0, " + k + ", 0)", 0).run("finish()").due("reader(6)", 1).due("found(0)", 0);
            alike.due("found(" + (k - 1) + ")", k - 1);
        }
    }

    private void cost() {
        World x = s.small().due("begin(1, 1, 0)", 0).due("reader(5)", 0);
        x.due("round()", 0).due("reader(5)", 3 + 7 + 4 + 5).due("round()", 1).due("reader(5)", 19 + 3 + 4);
        x.due("begin(0, 1, 0)", 0).due("finish()", 2).due("reader(5)", 2 * 3 + 2 * 4);
        World most = toTheLastPlace(4, 100).due("begin(0, 19, 0)", 0).due("finish()", 20).due("reader(5)", 8000);
        // 9 ROUNDS look two THINGS UP in three LISTS each; the 10th one stops ahead of the second THING.
        most.due("begin(1, 19, 0)", 0).due("finish()", 10).due("reader(3)", 40).due("reader(4)", 57).due("reader(5)", 9700);
        // WEIGHT 0 is paid for, too.
        World idle = s.world(2).judge(0, 7, 11, 5, 6).judge(1, 1, 1, 3, 4).due("begin(1, 1, 0)", 0).due("round()", 0);
        idle.due("reader(3)", 2).due("reader(4)", 1).due("reader(5)", 9);
    }

    private void marksEndIt() {
        for (World x : new World[] {s.midway(), s.done()}) {
            x.due("mark(1, 1, 15)", 15).due("count(4)", 1).due("mark(1, 1, 16)", 15).due("count(4)", 0);
        }
        for (World x : new World[] {s.midway(), s.done()}) {
            x.due("unmark(1, 0)", 0).due("count(4)", 1).due("mark(1, 0, 1)", 0).due("count(4)", 0);
        }
        for (World x : new World[] {s.midway(), s.done()}) {
            x.due("unmark(0, 0)", 10).due("count(4)", 0);
        }
        // A LIST with WEIGHT 0 is no other.
        World idle = s.world(2).judge(0, 1, 1, 5).due("begin(0, 1, 0)", 1).due("mark(0, 0, 6)", 5).due("count(4)", 0);
        idle.due("begin(0, 1, 0)", 1).due("unmark(0, 0)", 6).due("count(4)", 0);
    }

    private void othersEndIt() {
        for (World x : new World[] {s.midway(), s.done()}) {
            x.due("weigh(1, 1)", 1).due("rule(0)", 0).due("count(4)", 1).due("weigh(1, 2)", 1).due("count(4)", 0);
        }
        s.midway().due("rule(1)", 0).due("count(4)", 0);
        s.midway().due("rule(2)", 0).due("count(4)", 0);
        s.midway().due("thing()", 3).due("count(4)", 0);
        s.midway().due("list(0, 1, 0)", 2).due("count(4)", 0);
        s.done().due("thing()", 3).due("count(4)", 0);
        s.done().due("list(0, 1, 0)", 2).due("count(4)", 0);
        s.done().due("rule(1)", 0).due("count(4)", 0);
    }

    private void toldNoLonger() {
        String[] changes = {"thing()", "list(1, 1, 1)", "mark(0, 0, 11)", "mark(1, 0, 1)", "unmark(0, 0)", "weigh(0, 3)",
            "rule(1)"};
        for (String change : changes) {
            for (World x : new World[] {s.midway(), s.done()}) {
                x.run(change).due("count(4)", 0).each("reader(#)", NONE, NONE, NONE, NONE, NONE, NONE, NONE, NONE);
                x.each("depth(0, #)", NONE, NONE).each("depth(1, #)", NONE, NONE).each("known(0, #)", NONE, NONE, NONE);
                x.each("known(1, #)", NONE, NONE, NONE).each("bound(#, 0)", NONE, NONE, NONE);
                x.each("bound(#, 1)", NONE, NONE, NONE).due("ahead(2, 0)", NONE).due("found(0)", NONE);
                x.due("round()", NONE).due("finish()", NONE);
                x.due("begin(0, 1, 0)", 0).due("reader(5)", 0).due("depth(0, 0)", 0).due("known(0, 2)", 0);
            }
        }
    }
}
