import java.util.ArrayList;
import java.util.List;

/** Bounds of THE TAPE: feed, end, what text() makes of it, fault. */
final class TapeBounds {
    private static final long BLANKS = 0x2020202020202020L;

    private TapeBounds() {
    }

    static void test(Bounds b) {
        feedIsHighestFirst(b);
        feedIsFull(b);
        endKeepsTheFirst(b);
        endIsBad(b);
        textEmptiesTheTape(b);
        textTellsPlaces(b);
        textThatIsRefusedLeavesAll(b);
        textThatIsTakenLeavesNothing(b);
        sortsThatWereThere(b);
        faultIsOfTheLatest(b);
    }

    private static void feedIsHighestFirst(Bounds b) {
        b.says(2, "Eight bytes come behind THE TAPE, the highest first: how many it has.");
        LemonMarket x = new LemonMarket();
        b.due("feed of 'mark 12;'", x.feed(0x6d61726b2031323bL), 8);
        b.due("text()", x.text(), 1);
        b.due("rule(0)", x.rule(0), 12);
        b.due("feed of 'sort 1 2'", x.feed(0x736f727420312032L), 8);
        b.due("feed of ' 3;'", x.feed(0x20333b2020202020L), 16);
        b.due("text()", x.text(), 1);
        b.due("of(0, 2)", x.of(0, 2), 3);
        // Bytes above 127, in the highest place and in the lowest, and both ends of long.
        long[] values = {0x8020202020202020L, 0x2020202020202080L, 0x20202020202020ffL, -1L, Long.MIN_VALUE, Long.MAX_VALUE, 0L, 1L};
        int[] places = {0, 7, 7, 0, 0, 0, 0, 0};
        for (int i = 0; i < values.length; i++) {
            b.due("feed(" + values[i] + ")", x.feed(values[i]), 8);
            b.due("text()", x.text(), -10 - places[i]);
            b.due("fault()", x.fault(), 1);
        }
    }

    private static void feedIsFull(Bounds b) {
        b.says(2, "FULL: more than 240.");
        LemonMarket x = new LemonMarket();
        for (int i = 1; i <= 30; i++) b.due("feed " + i, x.feed(BLANKS), 8 * i);
        b.due("feed 31", x.feed(BLANKS), Bounds.FULL);
        b.due("feed 32", x.feed(BLANKS), Bounds.FULL);
        b.due("count(4)", x.count(4), 240);
        for (int n = 239; n >= 233; n--) {
            x.end(n);
            b.due("feed behind " + n, x.feed(BLANKS), Bounds.FULL);
            b.due("count(4)", x.count(4), n);
        }
        x.end(232);
        b.due("feed behind 232", x.feed(BLANKS), 240);
        x.end(231);
        b.due("feed behind 231", x.feed(BLANKS), 239);
        // What did not come is not on THE TAPE, neither behind its bytes nor over the first ones.
        LemonMarket y = new LemonMarket();
        Bounds.lay(y, "mark 7;" + " ".repeat(233));
        b.due("feed of what is no TOKEN", y.feed(0L), Bounds.FULL);
        b.due("text()", y.text(), 1);
        b.due("rule(0)", y.rule(0), 7);
        b.due("feed when it is empty again", y.feed(BLANKS), 8);
    }

    private static void endKeepsTheFirst(Bounds b) {
        b.says(3, "THE TAPE keeps its first n bytes: how many it had.");
        LemonMarket x = new LemonMarket();
        b.due("end(0) of 0", x.end(0), 0);
        x.feed(BLANKS);
        b.due("end(8) of 8", x.end(8), 8);
        b.due("count(4)", x.count(4), 8);
        b.due("end(7) of 8", x.end(7), 8);
        b.due("end(1) of 7", x.end(1), 7);
        b.due("end(0) of 1", x.end(0), 1);
        b.due("count(4)", x.count(4), 0);
        for (int i = 0; i < 30; i++) x.feed(BLANKS);
        b.due("end(240) of 240", x.end(240), 240);
        b.due("end(239) of 240", x.end(239), 240);
        b.due("end(0) of 239", x.end(0), 239);
        // The bytes that went do not come back.
        Bounds.lay(x, "mark 12;");
        x.end(6);
        Bounds.lay(x, ";");
        b.due("text() of 'mark 1' and ';'", x.text(), 1);
        b.due("rule(0)", x.rule(0), 1);
    }

    private static void endIsBad(Bounds b) {
        b.says(3, "BAD.");
        LemonMarket x = new LemonMarket();
        for (int n : new int[] {-1, 1, 8, 240, Bounds.LOW, Bounds.HIGH}) b.due("end(" + n + ") of 0", x.end(n), Bounds.BAD);
        Bounds.lay(x, "mark 12;");
        for (int n : new int[] {-1, -8, 9, 16, 240, 241, Bounds.LOW, Bounds.HIGH}) {
            b.due("end(" + n + ") of 8", x.end(n), Bounds.BAD);
            b.due("count(4)", x.count(4), 8);
        }
        b.due("text()", x.text(), 1);
        b.says(Bounds.TERMS, "THE TAPE has 240 bytes, places from 0.");
        for (int i = 0; i < 30; i++) x.feed(BLANKS);
        for (int n : new int[] {-1, 241, 248, Bounds.LOW, Bounds.HIGH}) b.due("end(" + n + ") of 240", x.end(n), Bounds.BAD);
        b.due("count(4)", x.count(4), 240);
    }

    private static void textEmptiesTheTape(Bounds b) {
        b.says(4, "THE TAPE (empty then) tells all: how many lines;");
        b.taken("", 0);
        b.taken(" ", 0);
        b.taken(" ".repeat(240), 0);
        b.taken("keen 1;", 1);
        StringBuilder all = new StringBuilder("mark1;look4 1;keen1;");
        for (int s = 0; s < 8; s++) all.append("sort1 1 1;").append("fail").append(s).append(" 1;must").append(s).append(" 1;");
        b.taken(all.toString(), 27);
        b.taken(all + " ".repeat(240 - all.length()), 27);
        b.says(Bounds.TERMS, "text: { line }");
        LemonMarket x = b.told("mark 7;");
        b.due("text() again, of no line", x.text(), 0);
        b.due("rule(0)", x.rule(0), 50);
    }

    private static void textTellsPlaces(Bounds b) {
        b.says(4, "-10 less the place of its FAULT");
        b.faulty("x", 1, 0);
        b.faulty(" x", 1, 1);
        b.faulty(" ".repeat(239) + "x", 1, 239);
        b.faulty(" ".repeat(238) + "x ", 1, 238);
        b.faulty("mark" + " ".repeat(236), 2, 240);
        b.faulty(" ".repeat(236) + "mark", 2, 240);
        b.faulty("mark 7;" + " ".repeat(232) + ";", 2, 239);
        b.faulty("x".repeat(240), 1, 0);
        b.faulty("mark " + "7".repeat(235), 1, 5);
    }

    private static void textThatIsRefusedLeavesAll(Bounds b) {
        b.says(4, "that which was told stays.");
        String[] spoilt = {"x", "sort 9 9 9;;", "mark 1;look 4 0;keen 1;keen", "sort 9 9 9;fail 0 11;", "sort 1 1 1;".repeat(9)};
        for (String text : spoilt) {
            LemonMarket x = b.told("sort 2 3 4;sort 5 6 7;fail 1 8;must 1 5;mark 7;look 5 3;keen 2;");
            Bounds.lay(x, text);
            b.due("text() of '" + text + "' is refused", x.text() <= -10 ? 1 : 0, 1);
            b.due("count(4)", x.count(4), 0);
            b.due("count(0)", x.count(0), 2);
            int[][] of = {{2, 3, 4, 0, 0, 0}, {5, 6, 7, 8, 5, 1}};
            for (int s = 0; s < 2; s++) for (int i = 0; i < 6; i++) b.due("of(" + s + ", " + i + ")", x.of(s, i), of[s][i]);
            int[] rules = {7, 5, 3, 2};
            for (int i = 0; i < 4; i++) b.due("rule(" + i + ")", x.rule(i), rules[i]);
        }
    }

    private static void textThatIsTakenLeavesNothing(Bounds b) {
        b.says(Bounds.TERMS, "A text that is taken tells all, in place of what there was.");
        LemonMarket x = b.told("sort 2 3 4;sort 5 6 7;fail 0 8;must 0 2;mark 7;look 5 3;keen 2;");
        Bounds.layAll(x, 0, 0, 1, 2, 3);
        x.read(0, 0, 0, 1);
        Bounds.lay(x, "sort 9 8 7;");
        b.due("text()", x.text(), 1);
        b.due("count(0)", x.count(0), 1);
        int[] of = {9, 8, 7, 0, 0, 0};
        for (int i = 0; i < 6; i++) b.due("of(0, " + i + ")", x.of(0, i), of[i]);
        for (int i = 0; i < 6; i++) b.due("of(1, " + i + ")", x.of(1, i), Bounds.BAD);
        int[] first = {50, 6, 1, 5};
        for (int i = 0; i < 4; i++) b.due("rule(" + i + ")", x.rule(i), first[i]);
        // A SHEET and its FAULT are not told by a text.
        b.due("count(5)", x.count(5), 3);
        b.due("torn()", x.torn(), 2);
        // Nothing of a text that was refused is left for the next one.
        Bounds.lay(x, "sort 9 8 7;fail 0 9;must 0 9;mark 1;look 4 0;keen 1;x");
        x.text();
        Bounds.lay(x, "sort 6 5 4;");
        b.due("text()", x.text(), 1);
        b.due("of(0, 3)", x.of(0, 3), 0);
        b.due("of(0, 4)", x.of(0, 4), 0);
        for (int i = 0; i < 4; i++) b.due("rule(" + i + ")", x.rule(i), first[i]);
        b.due("text() of nothing", x.text(), 0);
        b.due("count(0)", x.count(0), 0);
    }

    /** An object that had eight other SORTS answers as one that had none. */
    private static void sortsThatWereThere(Bounds b) {
        b.says(Bounds.TERMS, "in place of what there was.");
        String[] texts = {"", "sort 5 40 39;", "sort 9 20 60;sort 7 10 30;fail 1 6;", "sort 1 0 0;".repeat(7)};
        for (String text : texts) {
            LemonMarket x = b.told("sort 50 1 99;".repeat(8) + "fail 1 9;fail 7 9;must 1 50;must 7 50;mark 9;look 8 20;keen 10;");
            answers(x);
            Bounds.lay(x, text);
            x.text();
            b.due("'" + text + "': all answers are those of a new object", answers(x).equals(answers(b.told(text))) ? 1 : 0, 1);
        }
    }

    private static List<Integer> answers(LemonMarket x) {
        List<Integer> all = new ArrayList<>();
        for (int i = 0; i < 4; i++) all.add(x.count(i));
        for (int kind = 0; kind <= 4; kind++) {
            for (int p : new int[] {0, 10, 40, 99}) {
                for (int what = 0; what <= 2; what++) all.add(x.comes(kind, 7, p, what));
                all.add(x.thought(kind, 7, p, 0));
                all.add(x.gain(kind, 7, p));
                all.add(x.lost(kind, 7, p));
            }
            all.add(x.rests(kind, 7, 0));
            all.add(x.best(kind, 7, 1));
        }
        for (int s = 0; s < 8; s++) {
            all.add(x.of(s, 0));
            all.add(x.edge(s));
            all.add(x.spur(s));
        }
        for (int f = 0; f <= 9; f++) all.add(x.part(f, 0));
        for (int bits : new int[] {0, 1, 2, 4, 5, 6, 8, 12}) all.add(x.laws(bits, 7, 0));
        all.add(x.all());
        all.add(x.sharp());
        all.add(x.days(1));
        all.add(x.learn(99, 9, 0));
        return all;
    }

    private static void faultIsOfTheLatest(Bounds b) {
        b.says(5, "The FAULT of the latest text(); 0.");
        LemonMarket x = new LemonMarket();
        b.due("fault() of none", x.fault(), 0);
        String[] texts = {"x", "mark;", "keen 0;", "keen 1;keen 1;", "sort 1 1 1;".repeat(9)};
        for (int i = 0; i < 5; i++) {
            Bounds.lay(x, texts[i]);
            b.due("fault() ahead of text()", x.fault(), i);
            x.text();
            b.due("fault()", x.fault(), i + 1);
            b.due("fault() again", x.fault(), i + 1);
        }
        x.sort(1, 1, 1);
        x.sort(0, 1, 1);
        x.end(-1);
        x.read(0, 0, 0, 1);
        b.due("fault() behind other calls", x.fault(), 5);
        x.text();
        b.due("fault() of a text that is taken", x.fault(), 0);
    }
}
