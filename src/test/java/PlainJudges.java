import java.util.ArrayList;
import java.util.Arrays;
import java.util.Comparator;
import java.util.HashSet;
import java.util.List;
import java.util.Set;

/**
 * The document once more, word by word and without regard to speed, for comparison. It shares no code
 * with the class: MARKS are looked for in sorted ROWS, SURE tries every set of k THINGS.
 */
final class PlainJudges {
    private static final int NONE = -1, BAD = -2, STATE = -3, FULL = -4;

    private record Judge(int weight, int down, int up, List<int[]> marks) {
        List<int[]> row() {
            List<int[]> sorted = new ArrayList<>(marks);
            sorted.sort(Comparator.<int[]>comparingInt(m -> -m[1]).thenComparingInt(m -> m[0]));
            return sorted;
        }

        int markOf(int thing) {
            return marks.stream().filter(m -> m[0] == thing).mapToInt(m -> m[1]).findFirst().orElse(0);
        }
    }

    private static final class Eyes {
        final int[] depths = new int[4];
        final Set<List<Integer>> lookedUp = new HashSet<>();
    }

    private int things;
    private final List<Judge> judges = new ArrayList<>();
    private int theRule;
    private final int[] told = new int[4];

    private Eyes eyes;
    private int kind, wanted, step, rounds, cost, lookUps;
    private Set<Integer> foundThings;

    private boolean noThing(int thing) {
        return thing < 0 || thing >= things;
    }

    private boolean noList(int list) {
        return list < 0 || list >= judges.size();
    }

    int thing() {
        if (things == 20) return FULL;
        eyes = null;
        return things++;
    }

    int list(int weight, int down, int up) {
        if (weight < 0 || weight > 10 || down < 1 || down > 100 || up < 0 || up > 100) return BAD;
        if (judges.size() == 4) return FULL;
        eyes = null;
        judges.add(new Judge(weight, down, up, new ArrayList<>()));
        return judges.size() - 1;
    }

    int mark(int list, int thing, int v) {
        if (noList(list) || noThing(thing)) return NONE;
        if (v < 1 || v > 1000) return BAD;
        int old = judges.get(list).markOf(thing);
        if (old == v) return old;
        unmark(list, thing);
        eyes = null;
        judges.get(list).marks.add(new int[] {thing, v});
        return old;
    }

    int unmark(int list, int thing) {
        if (noList(list) || noThing(thing)) return NONE;
        int old = judges.get(list).markOf(thing);
        if (judges.get(list).marks.removeIf(m -> m[0] == thing)) eyes = null;
        return old;
    }

    int weigh(int list, int w) {
        if (noList(list)) return NONE;
        if (w < 0 || w > 10) return BAD;
        Judge j = judges.get(list);
        if (w != j.weight) eyes = null;
        judges.set(list, new Judge(w, j.down, j.up, j.marks));
        return j.weight;
    }

    int rule(int r) {
        if (r < 0 || r > 2) return BAD;
        int old = theRule;
        theRule = r;
        if (old != r) eyes = null;
        return old;
    }

    int about(int list, int what) {
        if (noList(list) || what < 0 || what > 3) return NONE;
        Judge j = judges.get(list);
        return new int[] {j.weight, j.down, j.up, j.marks.size()}[what];
    }

    int row(int list, int place) {
        if (noList(list) || place < 0 || place >= judges.get(list).marks.size()) return NONE;
        return judges.get(list).row().get(place)[0];
    }

    private int placeOf(int list, int thing) {
        List<int[]> row = judges.get(list).row();
        for (int i = 0; i < row.size(); i++) {
            if (row.get(i)[0] == thing) return i;
        }
        return NONE;
    }

    int place(int list, int thing, int what) {
        if (noList(list) || noThing(thing) || what < 0 || what > 1 || placeOf(list, thing) == NONE) return NONE;
        return what == 0 ? placeOf(list, thing) : judges.get(list).markOf(thing);
    }

    private int byRule(int[] marks) {
        List<Integer> weighty = new ArrayList<>();
        int sum = 0;
        for (int list = 0; list < judges.size(); list++) {
            sum += judges.get(list).weight * marks[list];
            if (judges.get(list).weight > 0) weighty.add(marks[list]);
        }
        if (theRule == 0) return sum;
        weighty.sort(null);
        if (weighty.isEmpty()) return 0;
        return theRule == 1 ? weighty.get(0) : weighty.get(weighty.size() - 1);
    }

    int total(int thing) {
        return noThing(thing) ? NONE : byRule(judges.stream().mapToInt(j -> j.markOf(thing)).toArray());
    }

    int best(int i) {
        if (noThing(i)) return NONE;
        List<Integer> order = new ArrayList<>();
        for (int thing = 0; thing < things; thing++) order.add(thing);
        order.sort(Comparator.<Integer>comparingInt(t -> -total(t)).thenComparingInt(t -> t));
        return order.get(i);
    }

    private boolean isKnown(Eyes e, int list, int thing) {
        int place = placeOf(list, thing);
        return place != NONE && place < e.depths[list]
            || e.lookedUp.contains(List.of(list, thing))
            || e.depths[list] == judges.get(list).marks.size();
    }

    private int topOf(Eyes e, int list) {
        List<int[]> row = judges.get(list).row();
        if (e.depths[list] == row.size()) return 0;
        return e.depths[list] == 0 ? 1000 : row.get(e.depths[list] - 1)[1];
    }

    private int boundOf(Eyes e, int thing, boolean high) {
        int[] marks = new int[judges.size()];
        for (int list = 0; list < marks.length; list++) {
            if (isKnown(e, list, thing)) marks[list] = judges.get(list).markOf(thing);
            else if (high) marks[list] = topOf(e, list);
        }
        return byRule(marks);
    }

    /** THE FOUND, or null if it is not SURE. */
    private Set<Integer> sureOnes(Eyes e, int k) {
        int[] low = new int[things], high = new int[things];
        for (int t = 0; t < things; t++) {
            low[t] = boundOf(e, t, false);
            high[t] = boundOf(e, t, true);
        }
        boolean[][] ahead = new boolean[things][things];
        for (int a = 0; a < things; a++) {
            for (int b = 0; b < things; b++) {
                ahead[a][b] = low[a] > high[b] || low[a] == high[b] && a < b;
            }
        }
        return things <= 7 ? amongAllSets(ahead, k) : amongLikelyOnes(ahead, k);
    }

    private Set<Integer> amongAllSets(boolean[][] ahead, int k) {
        for (int set = 0; set < 1 << things; set++) {
            if (Integer.bitCount(set) == k && allAhead(ahead, set)) return members(set);
        }
        return null;
    }

    /** Each one of THE FOUND is AHEAD of all but k, and none that is not FOUND can be. */
    private Set<Integer> amongLikelyOnes(boolean[][] ahead, int k) {
        int set = 0;
        for (int a = 0; a < things; a++) {
            int many = 0;
            for (int b = 0; b < things; b++) {
                if (a != b && ahead[a][b]) many++;
            }
            if (many >= things - k) set |= 1 << a;
        }
        return Integer.bitCount(set) == k && allAhead(ahead, set) ? members(set) : null;
    }

    private boolean allAhead(boolean[][] ahead, int set) {
        for (int a = 0; a < things; a++) {
            for (int b = 0; b < things; b++) {
                if ((set >> a & 1) == 1 && (set >> b & 1) == 0 && !ahead[a][b]) return false;
            }
        }
        return true;
    }

    private Set<Integer> members(int set) {
        Set<Integer> those = new HashSet<>();
        for (int t = 0; t < things; t++) {
            if ((set >> t & 1) == 1) those.add(t);
        }
        return those;
    }

    int begin(int kind, int k, int h) {
        if (k < 1 || k > things || kind < 0 || kind > 2) return BAD;
        if (kind < 2 && h != 0 || kind == 2 && (h < 1 || h > 10)) return BAD;
        eyes = new Eyes();
        this.kind = kind;
        wanted = k;
        step = h;
        rounds = cost = lookUps = 0;
        return sureNow() ? 1 : 0;
    }

    private boolean sureNow() {
        foundThings = sureOnes(eyes, wanted);
        return foundThings != null;
    }

    int round() {
        if (eyes == null) return NONE;
        if (foundThings != null) return STATE;
        rounds++;
        return works() ? 1 : 0;
    }

    private boolean works() {
        for (int list = 0; list < judges.size(); list++) {
            Judge j = judges.get(list);
            if (eyes.depths[list] == j.marks.size()) continue;
            int thing = j.row().get(eyes.depths[list]++)[0];
            cost += j.down;
            if (sureNow() || kind == 1 && looksUp(thing)) return true;
        }
        if (kind != 2 || rounds % step != 0) return false;
        int chosen = NONE;
        for (int t = things - 1; t >= 0; t--) {
            if (wasSeen(t) && !openLists(t).isEmpty()
                && (chosen == NONE || boundOf(eyes, t, true) >= boundOf(eyes, chosen, true))) chosen = t;
        }
        return chosen != NONE && looksUp(chosen);
    }

    private boolean wasSeen(int thing) {
        for (int list = 0; list < judges.size(); list++) {
            int place = placeOf(list, thing);
            if (place != NONE && place < eyes.depths[list]) return true;
        }
        return false;
    }

    private List<Integer> openLists(int thing) {
        List<Integer> open = new ArrayList<>();
        for (int list = 0; list < judges.size(); list++) {
            if (judges.get(list).up > 0 && !isKnown(eyes, list, thing)) open.add(list);
        }
        return open;
    }

    private boolean looksUp(int thing) {
        for (int list : openLists(thing)) {
            eyes.lookedUp.add(List.of(list, thing));
            cost += judges.get(list).up;
            lookUps++;
            if (sureNow()) return true;
        }
        return false;
    }

    int finish() {
        if (eyes == null) return NONE;
        if (foundThings != null) return STATE;
        int many = 1;
        while (round() == 0) many++;
        return many;
    }

    int reader(int what) {
        if (eyes == null || what < 0 || what > 7) return NONE;
        Set<Integer> met = new HashSet<>();
        int places = 0;
        for (int list = 0; list < judges.size(); list++) {
            places += eyes.depths[list];
            for (int i = 0; i < eyes.depths[list]; i++) met.add(judges.get(list).row().get(i)[0]);
        }
        for (List<Integer> pair : eyes.lookedUp) met.add(pair.get(1));
        return new int[] {kind, wanted, rounds, places, lookUps, cost, foundThings == null ? 0 : 1, met.size()}[what];
    }

    int depth(int list, int what) {
        if (noList(list) || what < 0 || what > 1 || eyes == null) return NONE;
        return what == 0 ? eyes.depths[list] : topOf(eyes, list);
    }

    int known(int list, int thing) {
        if (noList(list) || noThing(thing) || eyes == null) return NONE;
        return isKnown(eyes, list, thing) ? 1 : 0;
    }

    int bound(int thing, int high) {
        if (noThing(thing) || eyes == null) return NONE;
        return high == 0 || high == 1 ? boundOf(eyes, thing, high == 1) : BAD;
    }

    int ahead(int a, int b) {
        if (noThing(a) || noThing(b) || eyes == null) return NONE;
        if (a == b) return BAD;
        int low = boundOf(eyes, a, false), high = boundOf(eyes, b, true);
        return low > high || low == high && a < b ? 1 : 0;
    }

    int found(int i) {
        if (eyes == null || i < 0 || i >= wanted) return NONE;
        return foundThings == null ? STATE : foundThings.stream().sorted().toList().get(i);
    }

    int enough(int k, int d0, int d1, int d2, int d3) {
        int[] d = {d0, d1, d2, d3};
        if (k < 1 || k > things) return BAD;
        Eyes e = new Eyes();
        for (int list = 0; list < 4; list++) {
            int most = noList(list) ? 0 : judges.get(list).marks.size();
            if (d[list] < 0 || d[list] > most) return BAD;
            e.depths[list] = d[list];
        }
        return sureOnes(e, k) == null ? 0 : 1;
    }

    int least(int k) {
        if (k < 1 || k > things) return BAD;
        int[] most = new int[4];
        int rows = 1;
        for (int list = 0; list < judges.size(); list++) {
            most[list] = judges.get(list).marks.size();
            rows *= most[list] + 1;
        }
        if (rows > 500) return STATE;
        List<int[]> good = new ArrayList<>();
        for (int a = 0; a <= most[0]; a++) {
            for (int b = 0; b <= most[1]; b++) {
                for (int c = 0; c <= most[2]; c++) {
                    for (int d = 0; d <= most[3]; d++) {
                        if (enough(k, a, b, c, d) == 1) good.add(new int[] {costOf(a, b, c, d), a, b, c, d});
                    }
                }
            }
        }
        good.sort(Arrays::compare);
        System.arraycopy(good.get(0), 1, told, 0, 4);
        return good.get(0)[0];
    }

    private int costOf(int... d) {
        int sum = 0;
        for (int list = 0; list < judges.size(); list++) sum += d[list] * judges.get(list).down;
        return sum;
    }

    int leastDepth(int list) {
        return list < 0 || list > 3 ? NONE : told[list];
    }

    int count(int what) {
        if (what < 0 || what > 4) return NONE;
        int marks = judges.stream().mapToInt(j -> j.marks.size()).sum();
        return new int[] {things, judges.size(), marks, theRule, eyes == null ? 0 : 1}[what];
    }
}
