import java.io.IOException;
import java.nio.charset.StandardCharsets;
import java.nio.file.Files;
import java.nio.file.Path;

/**
 * The document, read from some words on up to others without leaving a word out. Each sentence is
 * given as it stands there, with calls that would be answered otherwise if it did not hold.
 */
final class Reading {
    private static final Path DOCUMENT = Path.of("../shared/DOC.md");

    private final String document;
    private final String end;
    private int place;
    private String head = "";
    private String sentence = "";

    /** Without words to end at it goes on to the document's end. */
    Reading(String from, String end) throws IOException {
        document = plain(Files.readString(DOCUMENT, StandardCharsets.UTF_8));
        this.end = plain(end);
        place = document.indexOf(plain(from));
        if (place < 0) {
            throw new IllegalStateException(DOCUMENT + " has no \"" + from + "\"");
        }
    }

    /** Line breaks and blanks side by side mean no more than one blank. */
    static String plain(String text) {
        return text.replaceAll("\\s+", " ").trim();
    }

    /** The words above the sentences that follow; they name them. */
    void head(String words) {
        passes(words);
        head = words.replace("#", "").trim();
    }

    /** Words that promise nothing of their own. */
    void passes(String words) {
        String due = plain(words);
        if (!document.startsWith(due, place)) {
            int shown = Math.min(document.length(), place + due.length() + 20);
            throw new IllegalStateException(DOCUMENT + " does not go on with \"" + due
                    + "\", but with \"" + document.substring(place, shown) + "\"");
        }
        place += due.length();
        while (place < document.length() && document.charAt(place) == ' ') {
            place++;
        }
    }

    /** The next words, and one run of calls in parts, as {@link Script} reads them. */
    void says(String words, String... parts) {
        named(words);
        Script.holds(sentence, parts);
    }

    /** One more run, on a new object, for the latest words. */
    void also(String... parts) {
        Script.holds(sentence, parts);
    }

    /** The next words; what is checked from here on stands for them. */
    void named(String words) {
        passes(words);
        sentence = head + ": " + plain(words);
        Check.sentence(sentence);
    }

    void finish() {
        Check.sentence("");
        boolean whole = end.isEmpty() ? place == document.length() : document.startsWith(end, place);
        Check.holds("nothing is left out ahead of \"" + end + "\"", whole);
        Check.finish();
    }
}
