/**
 * The best of all by many judges, found by reading their lists from the top only as far as needed.
 * Every row is made in a constructor and used again: no call makes an object.
 */
public final class JudgesLists {
    public static final int NONE = -1, BAD = -2, STATE = -3, FULL = -4;

    private static final int MOST_THINGS = 20;
    private static final int MOST_LISTS = 4;
    private static final int MOST_WEIGHT = 10;
    private static final int MOST_PRICE = 100;
    private static final int MOST_MARK = 1000;
    private static final int MOST_STEP = 10;
    private static final int MOST_DEPTH_ROWS = 500;

    private static final int SUM = 0;
    private static final int LEAST = 1;
    private static final int GREATEST = 2;

    private static final int DOWNWARD = 0;
    private static final int THRESHOLD = 1;
    private static final int MIXED = 2;

    private final Board board;
    private final Reader reader;
    private final Trial trial;

    public JudgesLists() {
        board = new Board();
        reader = new Reader(board);
        trial = new Trial(board);
    }

    // ---- lists and marks

    public int thing() {
        if (board.things >= MOST_THINGS) {
            return FULL;
        }
        reader.there = false;
        board.things++;
        return board.things - 1;
    }

    public int list(int weight, int down, int up) {
        if (!within(weight, 0, MOST_WEIGHT) || !within(down, 1, MOST_PRICE) || !within(up, 0, MOST_PRICE)) {
            return BAD;
        }
        if (board.lists >= MOST_LISTS) {
            return FULL;
        }
        reader.there = false;
        return board.addList(weight, down, up);
    }

    public int mark(int list, int thing, int v) {
        if (!board.hasList(list) || !board.hasThing(thing)) {
            return NONE;
        }
        if (!within(v, 1, MOST_MARK)) {
            return BAD;
        }
        return changeMark(list, thing, v);
    }

    public int unmark(int list, int thing) {
        if (!board.hasList(list) || !board.hasThing(thing)) {
            return NONE;
        }
        return changeMark(list, thing, 0);
    }

    public int weigh(int list, int w) {
        if (!board.hasList(list)) {
            return NONE;
        }
        if (!within(w, 0, MOST_WEIGHT)) {
            return BAD;
        }
        int old = board.weights[list];
        if (old != w) {
            reader.there = false;
        }
        board.weights[list] = w;
        return old;
    }

    public int rule(int r) {
        if (!within(r, SUM, GREATEST)) {
            return BAD;
        }
        int old = board.theRule;
        if (old != r) {
            reader.there = false;
        }
        board.theRule = r;
        return old;
    }

    public int about(int list, int what) {
        if (!board.hasList(list)) {
            return NONE;
        }
        switch (what) {
            case 0: return board.weights[list];
            case 1: return board.downs[list];
            case 2: return board.ups[list];
            case 3: return board.lengths[list];
            default: return NONE;
        }
    }

    public int row(int list, int place) {
        if (!board.hasList(list) || !within(place, 0, board.lengths[list] - 1)) {
            return NONE;
        }
        return board.rows[list][place];
    }

    public int place(int list, int thing, int what) {
        if (!board.hasList(list) || !board.hasThing(thing) || !within(what, 0, 1)) {
            return NONE;
        }
        if (board.marks[list][thing] == 0) {
            return NONE;
        }
        return what == 0 ? board.places[list][thing] : board.marks[list][thing];
    }

    public int total(int thing) {
        return board.hasThing(thing) ? board.totalOf(thing) : NONE;
    }

    public int best(int i) {
        return board.hasThing(i) ? board.bestAt(i) : NONE;
    }

    // ---- readers

    public int begin(int kind, int k, int h) {
        if (!board.mayAskFor(k) || !within(kind, DOWNWARD, MIXED)) {
            return BAD;
        }
        if (kind == MIXED ? !within(h, 1, MOST_STEP) : h != 0) {
            return BAD;
        }
        reader.start(kind, k, h);
        return yes(reader.done);
    }

    public int round() {
        if (!reader.there) {
            return NONE;
        }
        if (reader.done) {
            return STATE;
        }
        reader.workRound();
        return yes(reader.done);
    }

    public int finish() {
        if (!reader.there) {
            return NONE;
        }
        if (reader.done) {
            return STATE;
        }
        int before = reader.rounds;
        // Each ROUND sees a place more of the longest ROW, so MOST_THINGS of them see everything.
        for (int i = 0; i < MOST_THINGS && !reader.done; i++) {
            reader.workRound();
        }
        return reader.rounds - before;
    }

    public int reader(int what) {
        if (!reader.there) {
            return NONE;
        }
        switch (what) {
            case 0: return reader.kind;
            case 1: return reader.wanted;
            case 2: return reader.rounds;
            case 3: return reader.sight.placesSeen();
            case 4: return reader.lookUps;
            case 5: return reader.cost;
            case 6: return yes(reader.done);
            // Only THINGS that were SEEN are ever looked UP, so these are all of both.
            case 7: return reader.sight.thingsSeen();
            default: return NONE;
        }
    }

    public int depth(int list, int what) {
        if (!board.hasList(list) || !within(what, 0, 1) || !reader.there) {
            return NONE;
        }
        return what == 0 ? reader.sight.depths[list] : reader.sight.topOf(list);
    }

    public int known(int list, int thing) {
        if (!board.hasList(list) || !board.hasThing(thing) || !reader.there) {
            return NONE;
        }
        return yes(reader.sight.isKnown(list, thing));
    }

    public int bound(int thing, int high) {
        if (!board.hasThing(thing) || !reader.there) {
            return NONE;
        }
        if (!within(high, 0, 1)) {
            return BAD;
        }
        return high == 1 ? reader.sight.highOf(thing) : reader.sight.lowOf(thing);
    }

    public int ahead(int a, int b) {
        if (!board.hasThing(a) || !board.hasThing(b) || !reader.there) {
            return NONE;
        }
        if (a == b) {
            return BAD;
        }
        return yes(comesFirst(a, reader.sight.lowOf(a), b, reader.sight.highOf(b)));
    }

    public int found(int i) {
        if (!reader.there || !within(i, 0, reader.wanted - 1)) {
            return NONE;
        }
        if (!reader.done) {
            return STATE;
        }
        return reader.sight.foundAt(i);
    }

    // ---- what could be enough

    public int enough(int k, int d0, int d1, int d2, int d3) {
        if (!board.mayAskFor(k)) {
            return BAD;
        }
        if (!board.isDepth(0, d0) || !board.isDepth(1, d1) || !board.isDepth(2, d2) || !board.isDepth(3, d3)) {
            return BAD;
        }
        return yes(trial.isEnough(k, d0, d1, d2, d3));
    }

    public int least(int k) {
        if (!board.mayAskFor(k)) {
            return BAD;
        }
        if (board.depthRows() > MOST_DEPTH_ROWS) {
            return STATE;
        }
        return trial.cheapest(k);
    }

    public int leastDepth(int list) {
        return within(list, 0, MOST_LISTS - 1) ? trial.told[list] : NONE;
    }

    public int count(int what) {
        switch (what) {
            case 0: return board.things;
            case 1: return board.lists;
            case 2: return board.markCount;
            case 3: return board.theRule;
            case 4: return yes(reader.there);
            default: return NONE;
        }
    }

    private int changeMark(int list, int thing, int mark) {
        int old = board.marks[list][thing];
        if (old != mark) {
            reader.there = false;
            board.setMark(list, thing, mark);
        }
        return old;
    }

    private static boolean within(int number, int least, int most) {
        return number >= least && number <= most;
    }

    private static int yes(boolean so) {
        return so ? 1 : 0;
    }

    /** The one order of THINGS by numbers that they have: the greater one first, of alike ones the less THING. */
    private static boolean comesFirst(int a, int valueOfA, int b, int valueOfB) {
        return valueOfA > valueOfB || valueOfA == valueOfB && a < b;
    }

    /** THINGS, LISTS with their MARKS and ROWS, and THE RULE. */
    private static final class Board {
        int things;
        int lists;
        int markCount;
        int theRule = SUM;
        final int[] weights = new int[MOST_LISTS];
        final int[] downs = new int[MOST_LISTS];
        final int[] ups = new int[MOST_LISTS];
        final int[] lengths = new int[MOST_LISTS];
        final int[][] marks = new int[MOST_LISTS][MOST_THINGS];
        final int[][] rows = new int[MOST_LISTS][MOST_THINGS];
        final int[][] places = new int[MOST_LISTS][MOST_THINGS];
        private final int[] ofOneThing = new int[MOST_LISTS];
        private final int[] totals = new int[MOST_THINGS];

        boolean hasThing(int thing) {
            return within(thing, 0, things - 1);
        }

        boolean hasList(int list) {
            return within(list, 0, lists - 1);
        }

        boolean mayAskFor(int k) {
            return within(k, 1, things);
        }

        /** A LIST that there is not has no length, so that 0 alone is right for it. */
        boolean isDepth(int list, int depth) {
            return within(depth, 0, hasList(list) ? lengths[list] : 0);
        }

        int depthRows() {
            int product = 1;
            for (int list = 0; list < lists; list++) {
                product *= lengths[list] + 1;
            }
            return product;
        }

        int addList(int weight, int down, int up) {
            int list = lists;
            weights[list] = weight;
            downs[list] = down;
            ups[list] = up;
            lists++;
            return list;
        }

        /** A mark of 0 stands for none. */
        void setMark(int list, int thing, int mark) {
            int more = yes(mark != 0) - yes(marks[list][thing] != 0);
            marks[list][thing] = mark;
            lengths[list] += more;
            markCount += more;
            orderRow(list);
        }

        private void orderRow(int list) {
            int[] values = marks[list];
            for (int thing = 0; thing < things; thing++) {
                if (values[thing] != 0) {
                    int place = rankOf(thing, values);
                    places[list][thing] = place;
                    rows[list][place] = thing;
                }
            }
        }

        /** How many THINGS come ahead of one; none without a MARK comes ahead of one that has a MARK. */
        private int rankOf(int thing, int[] values) {
            int rank = 0;
            for (int other = 0; other < things; other++) {
                if (comesFirst(other, values[other], thing, values[thing])) {
                    rank++;
                }
            }
            return rank;
        }

        int totalOf(int thing) {
            for (int list = 0; list < lists; list++) {
                ofOneThing[list] = marks[list][thing];
            }
            return combined(ofOneThing);
        }

        /** What THE RULE makes of one number of each LIST. */
        int combined(int[] values) {
            boolean any = false;
            int sum = 0;
            int least = 0;
            int greatest = 0;
            for (int list = 0; list < lists; list++) {
                if (weights[list] > 0) {
                    sum += weights[list] * values[list];
                    least = any ? Math.min(least, values[list]) : values[list];
                    greatest = Math.max(greatest, values[list]);
                    any = true;
                }
            }
            if (theRule == SUM) {
                return sum;
            }
            return theRule == LEAST ? least : greatest;
        }

        int bestAt(int i) {
            for (int thing = 0; thing < things; thing++) {
                totals[thing] = totalOf(thing);
            }
            for (int thing = 0; thing < things; thing++) {
                if (rankOf(thing, totals) == i) {
                    return thing;
                }
            }
            return NONE;
        }
    }

    /** What was SEEN and looked UP, the bounds that follow from it, and whether it is SURE. */
    private static final class Sight {
        private final Board board;
        final int[] depths = new int[MOST_LISTS];
        /** Of each LIST a bit for each THING. */
        private final int[] lookedUp = new int[MOST_LISTS];
        private final int[] ofOneThing = new int[MOST_LISTS];
        private final int[] lows = new int[MOST_THINGS];
        /** A bit for each THING of THE FOUND. */
        private int foundBits;

        Sight(Board board) {
            this.board = board;
        }

        void forget() {
            for (int list = 0; list < MOST_LISTS; list++) {
                depths[list] = 0;
                lookedUp[list] = 0;
            }
        }

        void noteLookUp(int list, int thing) {
            lookedUp[list] |= 1 << thing;
        }

        boolean isWhole(int list) {
            return depths[list] >= board.lengths[list];
        }

        private boolean isAtSeenPlace(int list, int thing) {
            return board.marks[list][thing] != 0 && board.places[list][thing] < depths[list];
        }

        boolean isKnown(int list, int thing) {
            return isWhole(list) || isAtSeenPlace(list, thing) || (lookedUp[list] >> thing & 1) == 1;
        }

        boolean isSeen(int thing) {
            for (int list = 0; list < board.lists; list++) {
                if (isAtSeenPlace(list, thing)) {
                    return true;
                }
            }
            return false;
        }

        boolean mayBeLookedUp(int list, int thing) {
            return board.ups[list] > 0 && !isKnown(list, thing);
        }

        int placesSeen() {
            int sum = 0;
            for (int list = 0; list < board.lists; list++) {
                sum += depths[list];
            }
            return sum;
        }

        int thingsSeen() {
            int sum = 0;
            for (int thing = 0; thing < board.things; thing++) {
                sum += yes(isSeen(thing));
            }
            return sum;
        }

        /** An empty ROW is a whole one with DEPTH 0: nothing can be below, so its TOP is 0. */
        int topOf(int list) {
            if (isWhole(list)) {
                return 0;
            }
            int depth = depths[list];
            return depth == 0 ? MOST_MARK : board.marks[list][board.rows[list][depth - 1]];
        }

        int lowOf(int thing) {
            for (int list = 0; list < board.lists; list++) {
                ofOneThing[list] = isKnown(list, thing) ? board.marks[list][thing] : 0;
            }
            return board.combined(ofOneThing);
        }

        int highOf(int thing) {
            for (int list = 0; list < board.lists; list++) {
                ofOneThing[list] = isKnown(list, thing) ? board.marks[list][thing] : topOf(list);
            }
            return board.combined(ofOneThing);
        }

        /**
         * LOW is never above HIGH, so only the k THINGS that come first by LOW can be THE FOUND, and
         * they are if the last one of them is AHEAD of all others.
         */
        boolean isSure(int k) {
            for (int thing = 0; thing < board.things; thing++) {
                lows[thing] = lowOf(thing);
            }
            int last = chooseByLow(k);
            if (last == NONE) {
                return false;
            }
            for (int thing = 0; thing < board.things; thing++) {
                if (!isFound(thing) && !comesFirst(last, lows[last], thing, highOf(thing))) {
                    return false;
                }
            }
            return true;
        }

        /** Puts the k THINGS that come first by LOW into foundBits: the last one of them. */
        private int chooseByLow(int k) {
            foundBits = 0;
            int last = NONE;
            for (int i = 0; i < Math.min(k, board.things); i++) {
                last = firstLeftByLow();
                foundBits |= 1 << last;
            }
            return last;
        }

        private int firstLeftByLow() {
            int first = NONE;
            for (int thing = 0; thing < board.things; thing++) {
                if (!isFound(thing) && (first == NONE || lows[thing] > lows[first])) {
                    first = thing;
                }
            }
            return first;
        }

        private boolean isFound(int thing) {
            return (foundBits >> thing & 1) == 1;
        }

        int foundAt(int i) {
            int passed = 0;
            for (int thing = 0; thing < board.things; thing++) {
                if (isFound(thing)) {
                    if (passed == i) {
                        return thing;
                    }
                    passed++;
                }
            }
            return NONE;
        }
    }

    /** The READER, if there is one. */
    private static final class Reader {
        private final Board board;
        final Sight sight;
        boolean there;
        boolean done;
        int kind;
        /** How many THINGS are to be FOUND: k. */
        int wanted;
        /** In each so many-th ROUND a MIXED one looks UP: h. */
        private int step;
        int rounds;
        int lookUps;
        int cost;

        Reader(Board board) {
            this.board = board;
            sight = new Sight(board);
        }

        void start(int kind, int wanted, int step) {
            there = true;
            this.kind = kind;
            this.wanted = wanted;
            this.step = step;
            rounds = 0;
            lookUps = 0;
            cost = 0;
            sight.forget();
            done = sight.isSure(wanted);
        }

        void workRound() {
            rounds++;
            for (int list = 0; list < board.lists && !done; list++) {
                if (!sight.isWhole(list)) {
                    int thing = seeNextPlace(list);
                    if (kind == THRESHOLD) {
                        lookUpEverywhere(thing);
                    }
                }
            }
            if (kind == MIXED && !done && step > 0 && rounds % step == 0) {
                int thing = mostPromising();
                if (thing != NONE) {
                    lookUpEverywhere(thing);
                }
            }
        }

        /** The THING there. */
        private int seeNextPlace(int list) {
            int thing = board.rows[list][sight.depths[list]];
            sight.depths[list]++;
            cost += board.downs[list];
            done = sight.isSure(wanted);
            return thing;
        }

        private void lookUpEverywhere(int thing) {
            for (int list = 0; list < board.lists && !done; list++) {
                if (sight.mayBeLookedUp(list, thing)) {
                    sight.noteLookUp(list, thing);
                    lookUps++;
                    cost += board.ups[list];
                    done = sight.isSure(wanted);
                }
            }
        }

        /** The SEEN THING with the greatest HIGH of which something is left to look UP, or NONE. */
        private int mostPromising() {
            int first = NONE;
            int highest = 0;
            for (int thing = 0; thing < board.things; thing++) {
                if (sight.isSeen(thing) && hasLookUpsLeft(thing)) {
                    int high = sight.highOf(thing);
                    if (first == NONE || high > highest) {
                        first = thing;
                        highest = high;
                    }
                }
            }
            return first;
        }

        private boolean hasLookUpsLeft(int thing) {
            for (int list = 0; list < board.lists; list++) {
                if (sight.mayBeLookedUp(list, thing)) {
                    return true;
                }
            }
            return false;
        }
    }

    /** Tries DEPTHS with nothing looked UP, apart from the READER. */
    private static final class Trial {
        private final Board board;
        private final Sight sight;
        /** THE LEAST that was told latest. */
        final int[] told = new int[MOST_LISTS];

        Trial(Board board) {
            this.board = board;
            sight = new Sight(board);
        }

        boolean isEnough(int k, int d0, int d1, int d2, int d3) {
            sight.depths[0] = d0;
            sight.depths[1] = d1;
            sight.depths[2] = d2;
            sight.depths[3] = d3;
            return sight.isSure(k);
        }

        /** Goes from the least d(0), d(1), .. on, so that of alike COSTS the first one stays. */
        int cheapest(int k) {
            sight.forget();
            int rows = board.depthRows();
            int least = NONE;
            for (int i = 0; i < rows; i++) {
                int cost = costOfDepths();
                if ((least == NONE || cost < least) && sight.isSure(k)) {
                    least = cost;
                    System.arraycopy(sight.depths, 0, told, 0, MOST_LISTS);
                }
                goToNextDepths();
            }
            return least;
        }

        private int costOfDepths() {
            int cost = 0;
            for (int list = 0; list < board.lists; list++) {
                cost += board.downs[list] * sight.depths[list];
            }
            return cost;
        }

        private void goToNextDepths() {
            for (int list = board.lists - 1; list >= 0; list--) {
                if (!sight.isWhole(list)) {
                    sight.depths[list]++;
                    return;
                }
                sight.depths[list] = 0;
            }
        }
    }
}
