import java.util.function.Supplier;

/** Each method with all numbers at and around all limits, on a new object, on one at work and on a full one. */
public final class SweepTest {
    private static final int LEAST_INT = Integer.MIN_VALUE, MOST_INT = Integer.MAX_VALUE;
    private static final int[] NUMBERS = {
        LEAST_INT, -1, 0, 1, 2, 3, 4, 5, 7, 8, 10, 11, 19, 20, 21, 100, 101, 1000, 1001, MOST_INT};
    private static final int[] FEW = {LEAST_INT, -1, 0, 1, 2, 3, 20, 21, MOST_INT};
    private static final String[] METHODS = {
        "thing 0", "list 3", "mark 3", "unmark 2", "weigh 2", "rule 1", "about 2", "row 2", "place 3", "total 1", "best 1",
        "begin 3", "round 0", "finish 0", "reader 1", "depth 2", "known 2", "bound 2", "ahead 2", "found 1", "enough 5",
        "least 1", "leastDepth 1", "count 1"};
    private static final Checks checks = new Checks("SweepTest");

    private final Supplier<Pair> maker;
    private Pair pair;

    private SweepTest(Supplier<Pair> maker) {
        this.maker = maker;
        pair = maker.get();
    }

    public static void main(String[] args) {
        new SweepTest(() -> new Pair(checks)).all();
        new SweepTest(SweepTest::midway).all();
        new SweepTest(SweepTest::full).all();
        checks.end();
    }

    private static Pair midway() {
        Pair pair = new Pair(checks);
        for (int thing = 0; thing < 3; thing++) {
            pair.call("thing");
        }
        for (int list = 0; list < 3; list++) {
            pair.call("list", 2 - list, 3, 5 * list);
            for (int thing = list; thing < 3; thing++) {
                pair.call("mark", list, thing, 10 + 7 * (thing ^ list));
            }
        }
        pair.call("least", 1);
        pair.call("begin", 2, 2, 1);
        pair.call("round");
        return pair;
    }

    private static Pair full() {
        Pair pair = new Pair(checks);
        for (int thing = 0; thing < 20; thing++) {
            pair.call("thing");
        }
        for (int list = 0; list < 4; list++) {
            pair.call("list", 10, 100, 100);
            for (int thing = 0; thing < 20; thing++) {
                pair.call("mark", list, thing, 1000 - thing * (thing + list) % 20);
            }
        }
        pair.call("begin", 1, 5, 0);
        pair.call("round");
        return pair;
    }

    private void all() {
        for (String method : METHODS) {
            int blank = method.indexOf(' ');
            int many = method.charAt(blank + 1) - '0';
            pair = maker.get();
            sweep(method.substring(0, blank), new int[many], 0, many > 3 ? FEW : NUMBERS);
        }
    }

    private void sweep(String method, int[] numbers, int at, int[] choice) {
        if (at == numbers.length) {
            if (pair.callsLeft() == 0) {
                pair = maker.get();
            }
            pair.call(method, numbers);
            return;
        }
        for (int number : choice) {
            numbers[at] = number;
            sweep(method, numbers, at + 1, choice);
        }
    }
}
