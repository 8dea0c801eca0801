import java.io.IOException;
import java.io.UncheckedIOException;
import java.nio.file.Files;
import java.nio.file.Path;
import java.util.TreeSet;
import java.util.regex.Matcher;
import java.util.regex.Pattern;

/** What the tests of the document's sentences share: a sentence, the calls under it, the answers that are due. */
final class Bounds {
    static final int BAD = -1, FULL = -3, NONE = -4, FAR_BAD = -1000000000, FAR_NONE = -1000000004;
    static final int LOW = Integer.MIN_VALUE, HIGH = Integer.MAX_VALUE;
    static final int PROMISES = 32, TERMS = 0, BEGINNING = -1;

    // What is no sentence (headings, a promise's own head, the marks of blocks), and the part that promises nothing.
    private static final String NO_SENTENCES = "# LemonMarket |## What it is |## The public face |## Terms "
            + "|## Promise [0-9]+: [A-Za-z ]+`[^`]+`: |```(java|text)?|======== [12] |## Not promised .*";

    private final String document = plain(documentText());
    private final boolean[] quoted = new boolean[document.length()];
    private final TreeSet<Integer> named = new TreeSet<>();
    private int promise;
    private String sentence = "";
    private int sentences;
    private int checks;
    private int checksOfSentence;
    private int wrong;

    interface Call {
        int on(LemonMarket x);
    }

    /** Empty, if the document is not there: then its words can not be compared, and all else can. */
    private static String documentText() {
        Path path = Path.of("../shared/DOC.md");
        try {
            return Files.exists(path) ? Files.readString(path) : "";
        } catch (IOException e) {
            throw new UncheckedIOException(e);
        }
    }

    private static String plain(String text) {
        return text.replaceAll("\\s+", " ");
    }

    /** From here on the checks are of this sentence (of a promise, or of the TERMS), which the document must hold. */
    void says(int ofPromise, String words) {
        endSentence();
        promise = ofPromise;
        sentence = words;
        sentences++;
        named.add(ofPromise);
        if (!document.isEmpty() && !quote(plain(words), startOf(ofPromise), startOf(ofPromise + 1))) fail("the document does not say so");
    }

    private int startOf(int ofPromise) {
        if (ofPromise == BEGINNING) return 0;
        if (ofPromise == TERMS) return document.indexOf("## Terms");
        return document.indexOf(ofPromise > PROMISES ? "## Not promised" : "## Promise " + ofPromise + ":");
    }

    private boolean quote(String words, int from, int to) {
        boolean found = false;
        for (int i = document.indexOf(words, from); i >= 0 && i + words.length() <= to; i = document.indexOf(words, i + 1)) {
            markQuoted(i, i + words.length());
            found = true;
        }
        return found;
    }

    private void markQuoted(int from, int to) {
        for (int i = from; i < to; i++) quoted[i] = true;
    }

    /** Each stretch of the document that has a letter or a figure must stand in some sentence of the tests. */
    private void checkAllIsQuoted() {
        Matcher m = Pattern.compile(NO_SENTENCES).matcher(document);
        while (m.find()) markQuoted(m.start(), m.end());
        int from = 0;
        for (int i = 0; i <= quoted.length; i++) {
            if (i == quoted.length || quoted[i]) {
                String words = document.substring(from, i);
                if (words.matches(".*[A-Za-z0-9].*")) {
                    wrong++;
                    System.out.println("no test quotes '" + words + "'");
                }
                from = i + 1;
            }
        }
    }

    void due(String call, int got, int want) {
        checks++;
        checksOfSentence++;
        if (got != want) fail(call + " answered " + got + ", due is " + want);
    }

    private void fail(String what) {
        wrong++;
        if (wrong <= 40) System.out.println((promise <= TERMS ? "ahead of the promises" : "promise " + promise) + ", '" + sentence + "': " + what);
    }

    private void endSentence() {
        if (sentences > 0 && checksOfSentence == 0) fail("no check");
        checksOfSentence = 0;
    }

    void end() {
        endSentence();
        for (int i = TERMS; i <= PROMISES; i++) {
            if (!named.contains(i)) {
                wrong++;
                System.out.println("no sentence of promise " + i);
            }
        }
        checkAllIsQuoted();
        System.out.println("DocumentTest: " + sentences + " sentences, " + checks + " checks, " + wrong + " wrong");
        if (wrong != 0) System.exit(1);
    }

    static boolean in(int v, int least, int most) {
        return least <= v && v <= most;
    }

    /** Puts a text behind THE TAPE, which must have room for it. */
    static void lay(LemonMarket x, String text) {
        int had = x.count(4);
        for (int i = 0; i < text.length(); i += 8) {
            long v = 0;
            for (int j = i; j < i + 8; j++) v = v << 8 | (j < text.length() ? text.charAt(j) & 255 : 32);
            x.feed(v);
        }
        x.end(had + text.length());
    }

    /** A new object that has taken this text. */
    LemonMarket told(String text) {
        LemonMarket x = new LemonMarket();
        lay(x, text);
        if (x.text() < 0) fail("a test's own text '" + text + "' is not taken");
        return x;
    }

    void taken(String text, int lines) {
        LemonMarket x = new LemonMarket();
        lay(x, text);
        due("text() of '" + text + "'", x.text(), lines);
        due("fault() of '" + text + "'", x.fault(), 0);
        due("bytes behind '" + text + "'", x.count(4), 0);
    }

    void faulty(String text, int fault, int place) {
        LemonMarket x = new LemonMarket();
        lay(x, text);
        due("text() of '" + text + "'", x.text(), -10 - place);
        due("fault() of '" + text + "'", x.fault(), fault);
        due("bytes behind '" + text + "'", x.count(4), 0);
        due("SORTS behind '" + text + "'", x.count(0), 0);
    }

    /** A new object whose SHEET 1 has these CELLS. */
    static LemonMarket sheet(int lane, int... cells) {
        LemonMarket x = new LemonMarket();
        layAll(x, 1, lane, cells);
        return x;
    }

    static void layAll(LemonMarket x, int k, int lane, int... cells) {
        x.sheet(k, lane, cells.length);
        for (int i = 0; i < cells.length; i++) x.lay(k, i, cells[i]);
    }
}
