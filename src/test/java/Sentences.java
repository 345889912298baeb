import java.io.IOException;
import java.nio.file.Files;
import java.nio.file.Path;
import java.util.Arrays;
import java.util.Map;
import java.util.TreeMap;
import java.util.function.Supplier;

/**
 * Tests by the sentence of the document that each one holds the class to. What is left of the
 * document's text, when all sentences that have a test are taken out of it, must be nothing.
 */
final class Sentences {
    private final Checks checks = new Checks("EdgesTest");
    /** Of each section what no test has named so far; empty if the document is not there to compare with. */
    private final Map<String, String> left = new TreeMap<>();
    private String section = "";

    Sentences(Path document) throws IOException {
        if (!Files.isReadable(document)) {
            System.out.println("EdgesTest: " + document + " cannot be read: sentences are not compared with it");
            return;
        }
        String text = Files.readString(document).replace("```text", "").replace("```", "");
        for (String part : text.split("(?m)^## ")) {
            int end = part.indexOf('\n');
            if (end > 0) {
                left.put(part.substring(0, end).strip(), part.substring(end).replaceAll("\\s+", " ").strip());
            }
        }
        joinTerms();
    }

    /** The first of the Terms begin at the end of the title, in the midst of a sentence. */
    private void joinTerms() {
        String what = left.get("What it is");
        int from = what.indexOf("THINGS are numbered");
        int to = what.indexOf("An object is used");
        left.put("Terms", what.substring(from, to) + left.get("Terms"));
        left.put("What it is", what.substring(0, from) + what.substring(to));
    }

    void section(String heading) {
        section = heading;
        checks.under(heading);
        if (left.isEmpty()) {
            return;
        }
        checks.holds("the document has this section", left.containsKey(heading));
        left.computeIfPresent(heading, (same, text) -> text.replaceFirst("^`[^`]*`:", ""));
    }

    void holds(String sentence, Runnable test) {
        checks.under(section + ", \"" + sentence + "\"");
        takeOut(sentence);
        int before = checks.made();
        try {
            test.run();
        } catch (RuntimeException e) {
            // No call may throw; the tests of the other sentences are to run all the same.
            checks.holds("no call throws, but there was " + e, false);
        }
        checks.holds("the test looks at something", checks.made() > before);
    }

    /** Words of the section that say nothing that could be tested. */
    void says(String words) {
        checks.under(section);
        takeOut(words);
    }

    private void takeOut(String words) {
        String text = left.get(section);
        if (text == null) {
            return;
        }
        int at = text.indexOf(words);
        checks.holds("the document says: " + words, at >= 0);
        if (at >= 0) {
            left.put(section, text.substring(0, at) + "\n" + text.substring(at + words.length()));
        }
    }

    void end() {
        for (Map.Entry<String, String> entry : left.entrySet()) {
            String heading = entry.getKey();
            if (heading.startsWith("Promise ") || heading.equals("Terms") || heading.equals("What it is")) {
                String rest = entry.getValue().replaceAll("========( \\d)?", "").strip();
                checks.under(heading);
                checks.holds("each sentence has a test, left is: " + rest.replaceAll("\\s+", " "), rest.isEmpty());
            }
        }
        checks.end();
    }

    World world(int things) {
        return new World(checks).things(things);
    }

    /**
     * ROWS: 1 (30), 2 (20), 0 (10); 2 (40), 1 (15).
     * TOTALS: SUM 20, 75, 80; LEAST 0, 15, 20; GREATEST 10, 30, 40.
     */
    World small() {
        return world(3).judge(2, 3, 5, 10, 30, 20).judge(1, 4, 7, 0, 15, 40);
    }

    /** A THRESHOLD READER for one THING behind its first ROUND; THE LEAST that was told is 2, 2. */
    World midway() {
        return small().run("least(1)", "begin(1, 1, 0)", "round()");
    }

    /** The same READER when it is DONE. */
    World done() {
        return midway().run("finish()");
    }

    /** All THINGS and LISTS that there may be, and a READER at work. */
    World full() {
        return world(20).judge(1, 1, 1, 5, 4, 3).judge(2, 1, 1, 0, 7, 6).judge(0, 1, 0).judge(1, 2, 3, 1)
            .run("begin(0, 1, 0)", "round()");
    }

    /** ROWS of the lengths 20, 11, 1: 504 rows of DEPTHS, the fewest that are more than 500. */
    World many() {
        int[] twenty = new int[20];
        Arrays.fill(twenty, 5);
        return world(20).judge(1, 1, 1, twenty).judge(1, 1, 1, Arrays.copyOf(twenty, 11)).judge(1, 1, 1, 5);
    }

    /** The calls are refused, and then the object answers like one that never was called so. */
    void refused(Supplier<World> maker, int answer, String... told) {
        maker.get().all(answer, told).dueLike(maker.get());
    }

    /** The first numbers that are refused at both ends, and the farthest ones; '#' stands for the number. */
    static String[] outside(String pattern, int least, int most) {
        long[] numbers = {Integer.MIN_VALUE, least - 1L, most + 1L, Integer.MAX_VALUE};
        String[] told = new String[numbers.length];
        for (int i = 0; i < numbers.length; i++) {
            told[i] = pattern.replace("#", Long.toString(numbers[i]));
        }
        return told;
    }
}
