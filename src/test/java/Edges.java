import static java.lang.Integer.MAX_VALUE;
import static java.lang.Integer.MIN_VALUE;

import java.io.IOException;
import java.nio.file.Files;
import java.nio.file.Path;
import java.util.HashSet;
import java.util.Set;
import java.util.regex.Matcher;
import java.util.regex.Pattern;

/** Runs the tests of boundary cases, one for each sentence of the document, and looks at refused calls for them. */
final class Edges {
    static final int UNKNOWN = -1, OUTSIDE = -2, FULL = -4, NO = -5, NONE = -6;
    static final int LOST = -1000000000;

    // Beside the ends and the int's own ends: numbers that look right if only their last bits are looked at.
    static final int[] NO_DAYS = {MIN_VALUE, -256, -1, 100, 256, 65536, MAX_VALUE};
    static final int[] NO_WHOS = {MIN_VALUE, -4, -1, 4, 256, 65536, MAX_VALUE};
    static final int[] NO_WHATS = {MIN_VALUE, -256, -1, 256, 65536, MAX_VALUE};

    private final Due due = new Due();
    private final Set<String> seen = new HashSet<>();
    private final Set<Integer> promises = new HashSet<>();
    private final String document;
    private int promise;
    private String sentence = "";

    Edges() throws IOException {
        Path path = Path.of(System.getProperty("fallwith.document", "../shared/DOC.md"));
        boolean there = Files.isReadable(path);
        document = there ? Files.readString(path).replaceAll("\\s+", " ") : "";
        if (!there) {
            System.out.println("there is no " + path + ": the sentences are not compared with it");
        }
    }

    /** The sentence is the document's own: a test for words that are not there any more must not go unseen. */
    void test(int ofPromise, String ofDocument, Runnable body) {
        promise = ofPromise;
        sentence = ofDocument;
        promises.add(promise);
        due.holds(promise + ": the document says: " + sentence, document.isEmpty() || document.contains(sentence));
        body.run();
    }

    void is(String call, int got, int want) {
        seen.add(promise + " " + (want < LOST ? want - LOST : want));
        due.is(promise + " \"" + sentence + "\": " + call, got, want);
    }

    /** A call that is refused behind a story, and of which nothing is left then. */
    void refused(String name, Stories.Story story, Twins.Call call, int want) {
        is(name, call.on(Stories.after(story)), want);
        unchanged(name, story, call);
    }

    void unchanged(String name, Stories.Story story, Twins.Call call) {
        due.holds(promise + " \"" + sentence + "\": " + name + " changes nothing", Twins.alike(story, call));
    }

    /** Numbers of no act, where there are so many; with 32 and 64 a shift would come round to act 0. */
    static int[] noActs(int acts) {
        return new int[] {MIN_VALUE, -32, -1, acts, acts + 1, 12, 13, 32, 64, 256, 65536, MAX_VALUE};
    }

    /** Numbers with bits of no act, where there are so many. */
    static int[] noBits(int acts) {
        int all = (1 << acts) - 1;
        return new int[] {MIN_VALUE, MIN_VALUE | all, -1, ~all, 1 << acts, 1 << acts | all, 4096, 65536, 1 << 30, MAX_VALUE};
    }

    /** Each refusal that one of these promises names was due in a test of that promise. */
    void close(int first, int last) {
        for (int n = first; n <= last; n++) {
            due.holds("promise " + n + " has tests", promises.contains(n));
            Matcher named = Pattern.compile("\\b(UNKNOWN|OUTSIDE|FULL|NO|NONE)\\b").matcher(sectionOf(n));
            while (named.find()) {
                due.holds("promise " + n + " has a test of " + named.group(), seen.contains(n + " " + numberOf(named.group())));
            }
        }
        due.close();
    }

    private String sectionOf(int n) {
        int from = document.indexOf("## Promise " + n + ":");
        int till = document.indexOf("## ", from + 3);
        return from < 0 || till < 0 ? "" : document.substring(from, till);
    }

    private static int numberOf(String refusal) {
        return switch (refusal) {
            case "UNKNOWN" -> UNKNOWN;
            case "OUTSIDE" -> OUTSIDE;
            case "FULL" -> FULL;
            case "NO" -> NO;
            default -> NONE;
        };
    }
}
