import java.io.IOException;
import java.nio.file.Files;
import java.nio.file.Path;
import java.util.HashMap;
import java.util.Map;
import java.util.Set;
import java.util.TreeSet;

/**
 * Tests of the document's sentences, one by one. Each is told by where the sentence stands (a heading of
 * DOC.md) and by its words; it fails if an answer is not the one that is due, if it asks nothing, or if
 * DOC.md has no such words there.
 */
final class Sheet {
    private final Map<String, String> document = new HashMap<>();
    private final Set<String> places = new TreeSet<>();
    private String sentence = "";
    private int tests;
    private int failed;
    private int asked;
    private int wrong;

    Sheet() throws IOException {
        Path path = Path.of("../shared/DOC.md");
        // The answers are due with or without the document at hand
        if (!Files.exists(path)) {
            System.out.println("no " + path + ": quotes are not looked up");
            return;
        }
        String heading = "";
        for (String line : Files.readAllLines(path)) {
            if (line.startsWith("## ")) {
                // "## Promise 2: shooter" is the place "Promise 2"
                heading = line.substring(3).replaceAll(":.*", "");
            }
            document.merge(heading, line, (before, more) -> before + " " + more);
        }
    }

    void test(String place, String words, Runnable test) {
        sentence = place + ", \"" + words + "\"";
        int askedBefore = asked;
        int wrongBefore = wrong;
        if (!document.isEmpty() && !document.getOrDefault(place, "").contains(words)) {
            say("is not in the document");
        }
        try {
            test.run();
        } catch (RuntimeException e) {
            say("threw " + e);
        }
        if (asked == askedBefore) {
            say("asked nothing");
        }
        places.add(place);
        tests++;
        failed += wrong == wrongBefore ? 0 : 1;
    }

    private void say(String what) {
        wrong++;
        System.out.println(sentence + ": " + what);
    }

    void due(String call, long got, long want) {
        asked++;
        if (got != want) {
            say(call + " answered " + got + ", due is " + want);
        }
    }

    /** Answers for 0, 1, 2 and on. */
    void dueAll(String call, long[] got, long... want) {
        due(call + ": how many", got.length, want.length);
        for (int i = 0; i < Math.min(got.length, want.length); i++) {
            due(call + " at " + i, got[i], want[i]);
        }
    }

    void fault(String text, int place) {
        due("ground() of '" + text + "'", ground(new FootKeeper(), text), -10 - place);
    }

    void whole(String text) {
        due("ground() of '" + text + "'", ground(new FootKeeper(), text), 0);
    }

    /** SURE of shooter 0 by "in 7" and a condition: does it hold for all sides, or for none? */
    void holds(FootKeeper x, String condition, boolean want) {
        holdsBy(x, condition, want, want, want);
    }

    void holdsBy(FootKeeper x, String condition, boolean left, boolean middle, boolean right) {
        due("ground() with " + condition, ground(x, "in 7 " + condition) < 0 ? 1 : 0, 0);
        due(condition + ", left", x.of(0, 10), left ? 7 : 0);
        due(condition + ", middle", x.of(0, 11), middle ? 7 : 0);
        due(condition + ", right", x.of(0, 12), right ? 7 : 0);
    }

    void mustCover(String place) {
        sentence = place;
        if (!places.contains(place)) {
            say("has no test");
        }
    }

    void end() {
        System.out.println(tests + " sentences, " + asked + " answers asked, " + failed + " sentences not held");
        if (wrong != 0) {
            System.exit(1);
        }
    }

    static void feed(FootKeeper x, String text) {
        for (int i = 0; i < text.length(); i++) {
            x.feed(text.charAt(i));
        }
    }

    static int ground(FootKeeper x, String text) {
        feed(x, text);
        return x.ground();
    }

    /** A new object with a ground (none, if the text is empty) and shooters, told by kind and v in turns. */
    static FootKeeper with(String text, int... kindsAndVs) {
        FootKeeper x = new FootKeeper();
        if (!text.isEmpty()) {
            ground(x, text);
        }
        for (int i = 0; i + 1 < kindsAndVs.length; i += 2) {
            x.shooter(kindsAndVs[i], kindsAndVs[i + 1]);
        }
        return x;
    }

    static void line(FootKeeper x, int... shooters) {
        for (int shooter : shooters) {
            x.line(shooter);
        }
    }

    static void see(FootKeeper x, int... sides) {
        for (int side : sides) {
            x.see(side);
        }
    }

    static void tape(FootKeeper x, int tape, int sort, long... items) {
        x.tape(tape, sort, items.length);
        for (int i = 0; i < items.length; i++) {
            x.item(tape, i, items[i]);
        }
    }

    static long[] items(FootKeeper x, int tape, int n) {
        long[] items = new long[n];
        for (int i = 0; i < n; i++) {
            items[i] = x.read(tape, i);
        }
        return items;
    }

    static void shoot(FootKeeper x, int shooter, int draw, int times) {
        for (int i = 0; i < times; i++) {
            x.shoot(shooter, draw);
        }
    }
}
