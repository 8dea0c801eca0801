import java.io.IOException;
import java.io.UncheckedIOException;
import java.nio.file.Files;
import java.nio.file.Path;

/** What the document says ahead of its Terms, and of the interface: the face as it is written, and for how long it is used. */
final class FaceSentences {
    private static final String[][] SECTIONS = {
        {"the text, sorts", "feed", "end", "text", "fault", "sort", "set", "of", "rule"},
        {"offers", "comes", "sold", "thought", "rests", "fall", "gain", "lost", "best", "all"},
        {"what mends it", "part", "sharp", "days", "keep", "edge", "spur", "laws", "bestLaws", "learn"},
        {"sheets", "sheet", "lay", "read", "torn", "count"}};
    private static final String[] METHODS = {
        "feed(long v)", "end(int n)", "text()", "fault()", "sort(int many, int has, int would)", "set(int s, int what, int v)",
        "of(int s, int what)", "rule(int what)", "comes(int kind, int w, int p, int what)", "sold(int kind, int w, int p, int s)",
        "thought(int kind, int w, int p, int what)", "rests(int kind, int w, int what)", "fall(int kind, int w, int p, int what)",
        "gain(int kind, int w, int p)", "lost(int kind, int w, int p)", "best(int kind, int w, int what)", "all()",
        "part(int f, int what)", "sharp()", "days(int what)", "keep(int g, int d)", "edge(int s)", "spur(int s)",
        "laws(int bits, int w, int what)", "bestLaws(int w, int what)", "learn(int p, int n, int what)",
        "sheet(int k, int lane, int n)", "lay(int k, int i, int v)", "read(int k, int lane, int f, int n)", "torn()",
        "count(int what)"};

    private FaceSentences() {
    }

    static void test(Bounds b) {
        String source = source();
        face(b, source);
        sections(b, source);
        whatItIs(b);
        calls(b);
    }

    private static String source() {
        try {
            return Files.readString(Path.of("src/main/java/LemonMarket.java"));
        } catch (IOException e) {
            throw new UncheckedIOException(e);
        }
    }

    private static void isOnce(Bounds b, String source, String words) {
        int first = source.indexOf(words);
        b.due("the file has '" + words + "'", first >= 0 ? 1 : 0, 1);
        b.due("the file has it once: '" + words + "'", source.indexOf(words, first + 1), -1);
    }

    private static void face(Bounds b, String source) {
        b.says(Bounds.BEGINNING, "public final class LemonMarket {");
        isOnce(b, source, "public final class LemonMarket {");
        b.says(Bounds.BEGINNING, "public static final int BAD = -1, STATE = -2, FULL = -3, NONE = -4;");
        isOnce(b, source, "public static final int BAD = -1, STATE = -2, FULL = -3, NONE = -4;");
        b.says(Bounds.BEGINNING, "public LemonMarket();");
        isOnce(b, source, "public LemonMarket() {");
        for (String method : METHODS) {
            b.says(Bounds.BEGINNING, "public int " + method + ";");
            isOnce(b, source, "public int " + method + " {");
        }
    }

    /** The calls of a section stand behind its line and ahead of the next one's, in the document's order. */
    private static void sections(Bounds b, String source) {
        int last = 0;
        for (String[] section : SECTIONS) {
            StringBuilder calls = new StringBuilder();
            for (int i = 1; i < section.length; i++) calls.append(i > 1 ? ", " : "").append('`').append(section[i]).append('`');
            b.says(Bounds.TERMS, "Ahead of the calls " + calls + " the interface says: ---- " + section[0] + ".");
            for (int i = 0; i < section.length; i++) {
                int place = source.indexOf(i == 0 ? "// ---- " + section[0] + "\n" : "public int " + section[i] + "(");
                b.due("'" + section[i] + "' stands behind what is ahead of it", place > last ? 1 : 0, 1);
                last = place;
            }
        }
    }

    /** The market of README.md through all that the document's first words name. */
    private static void whatItIs(Bounds b) {
        b.says(Bounds.BEGINNING, "A market for lemons: sorts of horses of which only the seller knows which is which; who comes at a price, "
                + "what one then thinks, prices at which what comes is worth it, the fall from a price step by step to where trade stops; "
                + "trade that would be good and is not; warrants by which sorts part, looks by one who errs, how sharp he must be, days in "
                + "which it may be given back, heaps, names that one would rather not lose, those who must sell, laws and what they leave, "
                + "the best of all laws; buyers who learn; the least change by which trade goes on; all exact, told in a text, sorts read "
                + "from sheets whose faults the machine finds.");
        LemonMarket x = b.told("sort 10 10 15;sort 10 30 40;sort 10 60 75;fail 0 8;fail 1 3;");
        b.due("who comes at 30", x.comes(0, 0, 30, 0), 3);
        b.due("what one then thinks", x.thought(0, 0, 30, 0), 55);
        b.due("what one then thinks, by", x.thought(0, 0, 30, 1), 2);
        b.due("prices at which it is worth it", x.rests(0, 0, 0), 6);
        int[] fall = {60, 43, 27, 15};
        for (int i = 0; i < fall.length; i++) b.due("the fall from 60", x.fall(0, 0, 60, 10 + i), fall[i]);
        b.due("where trade stops", x.fall(0, 0, 60, 0), 15);
        b.due("trade that would be good and is not", x.lost(0, 0, 15), 8000 * (10 + 15));
        b.due("a warrant by which they part", x.part(3, 0), 63);
        // All 30 are looked at; of the GOOD 7000 parts, of the others 2000: 75 times 7 and 55 by 9, less 30 times 8 by 90.
        LemonMarket looked = b.told("sort 10 10 15;sort 10 30 40;sort 10 60 75;look 7 1;");
        b.due("looks by one who errs", looked.thought(2, 0, 60, 0), 556);
        b.due("looks by one who errs, by", looked.thought(2, 0, 60, 1), 9);
        b.due("how sharp he must be", looked.sharp(), 7);
        b.due("days in which it may be given back", x.days(0), 6);
        b.due("what they gain", x.days(1), 86400);
        b.due("heaps", x.rests(4, 0, 0), 10);
        b.due("names that one would rather not lose", x.keep(7, 50), 8);
        b.due("laws and what they leave", x.laws(4, 0, 0), 80000 - 80000);
        b.due("the best of all laws", x.bestLaws(0, 0), 8);
        b.due("what the best leaves", x.bestLaws(0, 1), 240000);
        b.due("buyers who learn", x.learn(60, 1, 0), 51);
        b.due("the least change by which trade goes on", x.edge(1), 45);
        x.set(0, 4, 2);
        b.due("those who must sell", x.comes(0, 0, 9, 1), 2);
        b.due("sheets whose faults the machine finds", x.read(0, 0, 0, 1), 0);
        b.due("a fault that the machine found", x.torn(), 1);
    }

    /** 512 calls that change all there is: the last ones answer as the first did. */
    private static void calls(Bounds b) {
        b.says(Bounds.BEGINNING, "An object is used for at most 512 calls after it has been made; what later calls answer is free.");
        LemonMarket x = new LemonMarket();
        for (int round = 0; round < 64; round++) {
            int v = round % 10;
            b.due("feed of round " + round, x.feed(0x6d61726b20303b20L + ((long) v << 16)), 8);
            b.due("text of round " + round, x.text(), 1);
            b.due("sort of round " + round, x.sort(1 + round % 50, v, 50), 0);
            b.due("thought of round " + round, x.thought(0, 0, 9, 0), 50);
            b.due("sheet of round " + round, x.sheet(v % 4, v % 3, 40), 1);
            b.due("lay of round " + round, x.lay(v % 4, 39, 1), 1);
            b.due("read of round " + round, x.read(v % 4, v % 3, 37, 1), 0);
            b.due("rule of round " + round, x.rule(0), v);
        }
    }
}
