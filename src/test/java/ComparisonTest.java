import java.util.Random;

/** Runs of calls by a fixed seed, on the class and on the plain telling of the document. */
public final class ComparisonTest {
    private static final int RUNS = 1000;
    /** As many calls as one turn may make. */
    private static final int TURN = 5;
    private static final Checks checks = new Checks("ComparisonTest");

    private final Random dice;
    private final Pair pair = new Pair(checks);
    private final int mostThings;
    private final int mostMark;

    private ComparisonTest(int seed) {
        dice = new Random(seed);
        mostThings = seed % 5 == 0 ? 20 : 2 + dice.nextInt(6);
        int[] scales = {3, 12, 100, 1000};
        mostMark = scales[dice.nextInt(scales.length)];
    }

    public static void main(String[] args) {
        for (int seed = 0; seed < RUNS && !checks.anyWrong(); seed++) {
            ComparisonTest run = new ComparisonTest(seed);
            run.play();
            if (checks.anyWrong()) {
                System.out.println("seed " + seed + ":\n" + run.pair.story());
            }
        }
        checks.end();
    }

    private void play() {
        build();
        while (pair.callsLeft() >= TURN && !checks.anyWrong()) {
            int choice = dice.nextInt(100);
            if (choice < 12) {
                change();
            } else if (choice < 18) {
                newReader();
            } else if (choice < 30) {
                call(dice.nextInt(4) == 0 ? "finish" : "round");
            } else if (choice < 38) {
                tryDepths();
            } else {
                ask();
            }
        }
    }

    private void build() {
        int things = mostThings == 20 ? 8 + dice.nextInt(14) : mostThings;
        for (int i = 0; i < things; i++) {
            call("thing");
        }
        int lists = dice.nextInt(10) == 0 ? dice.nextInt(6) : 1 + dice.nextInt(4);
        for (int i = 0; i < lists; i++) {
            call("list", dice.nextInt(4), 1 + dice.nextInt(3), dice.nextInt(3));
        }
        for (int list = 0; list < lists; list++) {
            int share = dice.nextInt(5);
            for (int thing = 0; thing < things; thing++) {
                if (dice.nextInt(4) < share) {
                    call("mark", list, thing, 1 + dice.nextInt(mostMark));
                }
            }
        }
        call("rule", dice.nextInt(3));
    }

    private void change() {
        switch (dice.nextInt(12)) {
            case 0 -> call("thing");
            case 1 -> call("list", number(0, 10), number(1, 100), number(0, 100));
            case 2, 3, 4, 5 -> call("mark", aList(), aThing(), number(1, mostMark));
            case 6, 7, 8 -> call("unmark", aList(), aThing());
            case 9, 10 -> call("weigh", aList(), number(0, 3));
            default -> call("rule", number(0, 2));
        }
    }

    private void newReader() {
        int kind = number(0, 2);
        int k = dice.nextInt(3) == 0 ? number(1, pair.plain.count(0)) : number(1, 2);
        call("begin", kind, k, kind == 2 ? number(1, 4) : number(0, 0));
    }

    private void tryDepths() {
        int[] d = new int[4];
        for (int list = 0; list < 4; list++) {
            d[list] = number(0, Math.max(0, pair.plain.about(list, 3)));
        }
        int k = number(1, Math.max(1, pair.plain.count(0)));
        if (dice.nextInt(3) > 0) {
            call("enough", k, d[0], d[1], d[2], d[3]);
            return;
        }
        call("least", dice.nextBoolean() ? k : 1);
        for (int list = 0; list < 4; list++) {
            call("leastDepth", list);
        }
    }

    private void ask() {
        switch (dice.nextInt(14)) {
            case 0 -> call("about", aList(), number(0, 3));
            case 1 -> call("row", aList(), aThing());
            case 2 -> call("place", aList(), aThing(), number(0, 1));
            case 3 -> call("total", aThing());
            case 4 -> call("best", aThing());
            case 5, 6 -> call("reader", number(0, 7));
            case 7 -> call("depth", aList(), number(0, 1));
            case 8 -> call("known", aList(), aThing());
            case 9 -> call("bound", aThing(), number(0, 1));
            case 10 -> call("ahead", aThing(), aThing());
            case 11 -> call("found", number(0, 3));
            case 12 -> call("leastDepth", number(0, 3));
            default -> call("count", number(0, 4));
        }
    }

    private int aThing() {
        return number(0, Math.max(0, pair.plain.count(0) - 1));
    }

    private int aList() {
        return number(0, Math.max(0, pair.plain.count(1) - 1));
    }

    /** Mostly within the range, now and then just outside of it or far away. */
    private int number(int least, int most) {
        int[] odd = {least - 1, most + 1, Integer.MIN_VALUE, Integer.MAX_VALUE};
        return dice.nextInt(25) == 0 ? odd[dice.nextInt(4)] : least + dice.nextInt(most - least + 1);
    }

    private void call(String name, int... numbers) {
        pair.call(name, numbers);
    }
}
