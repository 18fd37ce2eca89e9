import java.io.IOException;
import java.io.UncheckedIOException;
import java.nio.file.Files;
import java.nio.file.Path;

/**
 * The document's own words. A test of an edge quotes the sentence that it holds the program to, so that what it
 * prints names the promise; a quote must stand in the document, must have a check of its own, and in the end no
 * word of what a test is about may be left without a quote.
 */
final class Doc {
    private static final String WORDS = read();
    private static final boolean[] QUOTED = new boolean[WORDS.length()];
    private static int askedAtQuote = -1;

    private Doc() {
    }

    private static String read() {
        try {
            String text = Files.readString(Path.of("../shared/DOC.md"));
            return text.replaceAll("(?m)^```.*$", "").replaceAll("\\s+", " ") + " ## ";
        } catch (IOException e) {
            throw new UncheckedIOException(e);
        }
    }

    static void promise(int number, String words) {
        quote("promise " + number, "## Promise " + number + ":", words);
    }

    /** Words of the section Terms, and the number of the promise by which they are seen. */
    static void terms(int number, String words) {
        quote("promise " + number + " by Terms", "## Terms", words);
    }

    static void whatItIs(String words) {
        quote("What it is", "## What it is", words);
    }

    private static void quote(String where, String title, String words) {
        endQuote();
        Check.under(where + " \"" + words + "\": ");
        int start = WORDS.indexOf(title);
        int end = WORDS.indexOf(" ## ", start);
        int at = WORDS.indexOf(words, start);
        boolean stands = at >= 0 && at + words.length() <= end;
        Check.due("the words stand in the document", stands, true);
        for (int i = 0; stands && i < words.length(); i++) {
            QUOTED[at + i] = true;
        }
        askedAtQuote = Check.asked();
    }

    private static void endQuote() {
        if (askedAtQuote >= 0) {
            Check.due("the quote has a check", Check.asked() > askedAtQuote, true);
        }
    }

    /** Every word of these promises is quoted by a test. */
    static void promisesAreQuoted(int... numbers) {
        endQuote();
        for (int number : numbers) {
            int title = WORDS.indexOf("## Promise " + number + ":");
            int start = WORDS.indexOf("`: ", title) + 3;
            noneLeft("promise " + number, start, WORDS.indexOf(" ## ", start));
        }
    }

    /** Every word of the section Terms from some words up to others is quoted by a test. */
    static void termsAreQuoted(String from, String to) {
        endQuote();
        int start = WORDS.indexOf(from, WORDS.indexOf("## Terms"));
        int end = WORDS.indexOf(to, start);
        Check.due("the part of Terms is there: " + from, start >= 0 && end > start, true);
        noneLeft("Terms", start, end + to.length());
    }

    private static void noneLeft(String where, int start, int end) {
        Check.under(where + ": ");
        StringBuilder left = new StringBuilder();
        for (int i = start; i < end; i++) {
            left.append(QUOTED[i] ? ' ' : WORDS.charAt(i));
        }
        String words = left.toString().replaceAll("\\s+", " ");
        Check.due("words without a test: " + words, words.matches(".*[a-zA-Z0-9].*"), false);
    }
}
