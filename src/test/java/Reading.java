import java.io.IOException;
import java.nio.file.Files;
import java.nio.file.Path;

/** Reads a part of the document from its first word to its last: a sentence without a test is left over, and that is a fault. */
final class Reading {
    private final Due due = new Due();
    private String left;
    private String sentence = "";

    /** The part begins with some words and ends ahead of others; with none of these it ends with the document. */
    Reading(String begin, String end) throws IOException {
        Path path = Path.of(System.getProperty("fallwith.document", "../shared/DOC.md"));
        String document = Files.readString(path).replaceAll("\\s+", " ").trim();
        int from = document.indexOf(begin);
        int till = end.isEmpty() ? document.length() : document.indexOf(end);
        boolean there = from >= 0 && till >= from;
        due.holds("the document goes from: " + begin + " to: " + end, there);
        left = there ? document.substring(from, till).trim() : "";
    }

    void says(String words, Runnable test) {
        take(words);
        test.run();
    }

    /** A heading, or words that leave something free: there is nothing to look at. */
    void passOver(String words) {
        take(words);
    }

    String takeTill(String mark) {
        int at = left.indexOf(mark);
        due.holds("the document comes to: " + mark, at >= 0);
        String taken = at < 0 ? "" : left.substring(0, at);
        left = left.substring(taken.length());
        return taken;
    }

    private void take(String words) {
        sentence = words;
        int at = left.indexOf(words);
        due.holds("the document goes on with: " + words, at == 0);
        if (at >= 0) {
            left = left.substring(at + words.length()).trim();
        }
    }

    void is(String call, int got, int want) {
        due.is("\"" + sentence + "\": " + call, got, want);
    }

    void holds(String what, boolean so) {
        due.holds("\"" + sentence + "\": " + what, so);
    }

    void close() {
        due.holds("no test is told for: " + left, left.isEmpty());
        due.close();
    }
}
