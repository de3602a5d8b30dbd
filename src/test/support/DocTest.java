import java.io.IOException;
import java.io.UncheckedIOException;
import java.nio.file.Files;
import java.nio.file.Path;
import java.util.Arrays;

/**
 * Tests by the document's own words. A test quotes the words that it holds the class to and says which promise they
 * belong to. A quote that the document doesn't have is a fault; and so is a word of the document that nobody quotes.
 */
abstract class DocTest {
    static final int BEYOND = -1000001;
    static final int NONE = -1000002;
    static final int STATE = -1000003;
    static final int FULL = -1000004;
    static final int KIND = -1000005;

    private static final int PROMISES = 35;
    /** The terms at 0, then the promises by their numbers. */
    private static final String[] TEXTS = new String[PROMISES + 1];
    private static final boolean[][] QUOTED = new boolean[PROMISES + 1][];
    private static String now = "";
    private static int tests = 0;
    private static int wrong = 0;

    static {
        readDocument();
    }

    private static void readDocument() {
        String document;
        try {
            document = Files.readString(Path.of("../shared/DOC.md"));
        } catch (IOException e) {
            throw new UncheckedIOException(e);
        }
        TEXTS[0] = plain(between(document, "## Terms\n", "Ahead of the calls").replaceAll("(?m)^\\d\\. ", ""));
        for (int n = 1; n <= PROMISES; n++) {
            TEXTS[n] = plain(between(document, "## Promise " + n + ":", "\n## ").replaceFirst("(?s)^.*?`[^`]*`:", ""));
        }
        for (int n = 0; n <= PROMISES; n++) {
            QUOTED[n] = new boolean[TEXTS[n].length()];
        }
    }

    private static String between(String text, String head, String tail) {
        int from = text.indexOf(head) + head.length();
        return text.substring(from, text.indexOf(tail, from));
    }

    private static String plain(String text) {
        return text.replaceAll("```(text)?", " ").replaceAll("\\s+", " ").trim();
    }

    /** A test of words in the terms, which bind this promise. */
    static void terms(int promise, String words, Runnable test) {
        run(0, promise, words, test);
    }

    /** A test of words in the promise itself. */
    static void says(int promise, String words, Runnable test) {
        run(promise, promise, words, test);
    }

    private static void run(int text, int promise, String words, Runnable test) {
        now = "promise " + promise + ", '" + words + "': ";
        tests++;
        int from = TEXTS[text].indexOf(words);
        while (from >= 0 && QUOTED[text][from]) {
            from = TEXTS[text].indexOf(words, from + 1);
        }
        if (from < 0) {
            complain("the document doesn't say so (any more)");
        } else {
            Arrays.fill(QUOTED[text], from, from + words.length(), true);
        }
        test.run();
    }

    static void due(String call, int got, int want) {
        if (got != want) {
            complain(call + " answered " + got + ", due is " + want);
        }
    }

    static void complain(String what) {
        wrong++;
        System.out.println(now + what);
    }

    /** For tests that are of no one place in the document. */
    static void topic(String what) {
        now = what + ": ";
        tests++;
    }

    static void termsAreQuoted() {
        isQuoted(0, "the terms");
    }

    static void promisesAreQuoted() {
        for (int n = 1; n <= PROMISES; n++) {
            isQuoted(n, "promise " + n);
        }
    }

    private static void isQuoted(int text, String name) {
        StringBuilder left = new StringBuilder();
        for (int i = 0; i < TEXTS[text].length(); i++) {
            left.append(QUOTED[text][i] ? ' ' : TEXTS[text].charAt(i));
        }
        if (!left.toString().isBlank()) {
            topic(name);
            complain("no test quotes '" + left.toString().trim().replaceAll(" {2,}", " .. ") + "'");
        }
    }

    static void end() {
        System.out.println(wrong == 0 ? tests + " tests by the document's words" : wrong + " answers are not as due");
        if (wrong != 0) {
            System.exit(1);
        }
    }

    // ---- scenes

    /** As many small BUOYS in a row, 80 apart, at which BOATS of length 10 have an OUT of 10 and never TOUCH. */
    static BayMoorings row(int buoys) {
        BayMoorings x = new BayMoorings();
        for (int n = 0; n < buoys; n++) {
            x.buoy(80 * n, 0, 10, 10);
        }
        return x;
    }

    /** As many BUOYS in a row with as many small BOATS, each at the BUOY of its own number. */
    static BayMoorings rowWithBoats(int buoys) {
        BayMoorings x = row(buoys);
        addBoats(x, buoys);
        for (int n = 0; n < buoys; n++) {
            x.moor(n, n);
        }
        return x;
    }

    static void addBoats(BayMoorings x, int boats) {
        for (int n = 0; n < boats; n++) {
            x.boat(0, 10, 0);
        }
    }

    static void setAllTides(BayMoorings x, int v) {
        for (int hour = 0; hour < 24; hour++) {
            x.tide(hour, v);
        }
    }
}
