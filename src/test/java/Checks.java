/** Counts the answers of one test and tells the wrong ones. */
final class Checks {
    private final String name;
    private String place = "";
    private int right;
    private int wrong;

    Checks(String name) {
        this.name = name;
    }

    /** What is checked from here on belongs to this place of the document. */
    void under(String place) {
        this.place = place + ": ";
    }

    void due(String call, long got, long want) {
        if (got == want) {
            right++;
            return;
        }
        wrong++;
        System.out.println(name + ": " + place + call + " answered " + got + ", due is " + want);
    }

    void holds(String what, boolean so) {
        due(what, so ? 1 : 0, 1);
    }

    boolean anyWrong() {
        return wrong != 0;
    }

    int made() {
        return right + wrong;
    }

    void end() {
        System.out.println(name + ": " + right + " answers as due, " + wrong + " not");
        if (wrong != 0 || right == 0) {
            System.exit(1);
        }
    }
}
