import java.util.ArrayList;
import java.util.List;

/** What is refused changes nothing but THE TAPE, as told; what only asks changes nothing; the first that fits. */
final class Refusals {
    // The text that stands on THE TAPE of each market below; it is told when its state is asked.
    private static final String WAITING = "sort 3 2 1;must 0 2;keen 9;";

    private final Bounds b;
    private final List<String> names = new ArrayList<>();
    private final List<Bounds.Call> calls = new ArrayList<>();
    private final List<Integer> answers = new ArrayList<>();

    private Refusals(Bounds b) {
        this.b = b;
    }

    static void test(Bounds b) {
        b.says(Bounds.TERMS, "what is refused changes nothing (but THE TAPE, as told).");
        Refusals few = new Refusals(b);
        few.ofTheText();
        few.ofSorts();
        few.ofOffers();
        few.ofWhatMends();
        few.ofSheets();
        few.changeNothing(false);
        Refusals full = new Refusals(b);
        full.ofFull();
        full.changeNothing(true);
        b.says(Bounds.TERMS, "all else as it is");
        Refusals asked = new Refusals(b);
        asked.ofAsking();
        asked.changeNothing(false);
        textThatIsRefused(b);
        firstThatFits(b);
    }

    private void add(String name, int answer, Bounds.Call call) {
        names.add(name);
        answers.add(answer);
        calls.add(call);
    }

    /** A market with something of all: SORTS, rules, bytes, rows of each lane, FAULTS of a text and of a read. */
    private static LemonMarket busy(boolean full) {
        LemonMarket x = new LemonMarket();
        Bounds.lay(x, "sort 10 20 60;sort 9 30 20;fail 0 3;fail 1 10;must 1 4;mark 55;look 7 2;keen 4;");
        x.text();
        Bounds.layAll(x, 0, 0, 4, 3, 2, 1, 8, 7, 6, 5, 9);
        Bounds.layAll(x, 1, 1, 40, 30, 20, 10, 50);
        Bounds.layAll(x, 2, 2, 0, 0, 0, 0);
        x.read(1, 1, 0, 2);
        while (full && x.sort(2, 40, 50) >= 0) continue;
        Bounds.lay(x, "sort 1 1 1;fail 0 11;");
        x.text();
        Bounds.lay(x, WAITING);
        return x;
    }

    /** All that can be asked of a market's state, in fewer than 512 calls; it is spoilt by it. */
    private static List<Integer> stateOf(LemonMarket x) {
        List<Integer> state = new ArrayList<>();
        addTold(x, state);
        state.add(x.text());
        addTold(x, state);
        for (int k = 0; k < 4; k++) {
            for (int lane = 0; lane < 3; lane++) {
                for (int f = 0; f <= 6; f++) {
                    x.text();
                    int came = x.read(k, lane, f, 1);
                    int torn = came >= 0 ? x.torn() : 0;
                    state.add(came);
                    state.add(torn);
                    for (int i = 0; i < 4; i++) state.add(came == 1 ? x.of(0, i) : 0);
                    // Of nothing, and of another lane, every CELL tells the same.
                    if (torn == 1 || torn == 3) break;
                }
            }
        }
        return state;
    }

    private static void addTold(LemonMarket x, List<Integer> state) {
        for (int i = 0; i < 6; i++) state.add(x.count(i));
        for (int i = 0; i < 4; i++) state.add(x.rule(i));
        for (int s = 0; s < 8; s++) for (int i = 0; i < 5; i++) state.add(x.of(s, i));
        state.add(x.fault());
        state.add(x.torn());
    }

    private void changeNothing(boolean full) {
        List<Integer> due = stateOf(busy(full));
        for (int i = 0; i < calls.size(); i++) {
            LemonMarket x = busy(full);
            b.due(names.get(i), calls.get(i).on(x), answers.get(i));
            b.due("behind " + names.get(i) + " all is as it was", stateOf(x).equals(due) ? 1 : 0, 1);
        }
    }

    private void ofTheText() {
        add("end(-1)", Bounds.BAD, x -> x.end(-1));
        add("end(28)", Bounds.BAD, x -> x.end(28));
        add("end(LOW)", Bounds.BAD, x -> x.end(Bounds.LOW));
        add("end(HIGH)", Bounds.BAD, x -> x.end(Bounds.HIGH));
    }

    private void ofSorts() {
        int[][] sorts = {{0, 1, 1}, {51, 1, 1}, {1, -1, 1}, {1, 100, 1}, {1, 1, -1}, {1, 1, 100}};
        for (int[] s : sorts) add("sort(" + s[0] + ", " + s[1] + ", " + s[2] + ")", Bounds.BAD, x -> x.sort(s[0], s[1], s[2]));
        int[][] sets = {{-1, 1, 1}, {3, 1, 1}, {8, 1, 1}, {0, -1, 1}, {0, 5, 1}, {0, 0, 0}, {0, 0, 51}, {1, 0, 3}, {0, 1, -1}, {0, 1, 100},
            {0, 2, -1}, {0, 2, 100}, {0, 3, -1}, {0, 3, 11}, {0, 4, -1}, {0, 4, 11}, {1, 4, 10}, {Bounds.HIGH, Bounds.HIGH, Bounds.HIGH}};
        for (int[] s : sets) add("set(" + s[0] + ", " + s[1] + ", " + s[2] + ")", Bounds.BAD, x -> x.set(s[0], s[1], s[2]));
        add("of(3, 0)", Bounds.BAD, x -> x.of(3, 0));
        add("of(0, 6)", Bounds.BAD, x -> x.of(0, 6));
        add("rule(4)", Bounds.BAD, x -> x.rule(4));
        add("count(6)", Bounds.BAD, x -> x.count(6));
    }

    private void ofOffers() {
        add("comes(5, 0, 0, 0)", Bounds.BAD, x -> x.comes(5, 0, 0, 0));
        add("sold(0, 0, 0, 3)", Bounds.BAD, x -> x.sold(0, 0, 0, 3));
        add("thought(0, 0, 100, 0)", Bounds.FAR_BAD, x -> x.thought(0, 0, 100, 0));
        add("rests(3, 11, 0)", Bounds.BAD, x -> x.rests(3, 11, 0));
        add("fall(0, 0, 0, 9)", Bounds.BAD, x -> x.fall(0, 0, 0, 9));
        add("gain(0, 100, 0)", Bounds.FAR_BAD, x -> x.gain(0, 100, 0));
        add("lost(0, 0, -1)", Bounds.BAD, x -> x.lost(0, 0, -1));
        add("best(0, 0, 2)", Bounds.FAR_BAD, x -> x.best(0, 0, 2));
    }

    private void ofWhatMends() {
        add("part(10, 0)", Bounds.BAD, x -> x.part(10, 0));
        add("days(2)", Bounds.FAR_BAD, x -> x.days(2));
        add("keep(0, 0)", Bounds.BAD, x -> x.keep(0, 0));
        add("edge(3)", Bounds.BAD, x -> x.edge(3));
        add("spur(3)", Bounds.BAD, x -> x.spur(3));
        add("laws(3, 0, 0)", Bounds.FAR_BAD, x -> x.laws(3, 0, 0));
        add("laws(4, 100, 0)", Bounds.FAR_BAD, x -> x.laws(4, 100, 0));
        add("bestLaws(100, 0)", Bounds.FAR_BAD, x -> x.bestLaws(100, 0));
        add("learn(0, 100, 0)", Bounds.BAD, x -> x.learn(0, 100, 0));
    }

    private void ofSheets() {
        int[][] sheets = {{-1, 0, 4}, {4, 0, 4}, {0, -1, 4}, {0, 3, 4}, {0, 0, 41}, {0, 0, Bounds.HIGH}, {3, 0, 41}, {4, 0, -1}};
        for (int[] s : sheets) add("sheet(" + s[0] + ", " + s[1] + ", " + s[2] + ")", Bounds.BAD, x -> x.sheet(s[0], s[1], s[2]));
        for (int k = 0; k < 4; k++) {
            int row = k;
            add("sheet(" + k + ", 1, -1)", -14, x -> x.sheet(row, 1, -1));
            add("lay(" + k + ", -1, 1)", k == 3 ? -11 : -12, x -> x.lay(row, -1, 1));
            add("lay(" + k + ", 9, 1)", k == 3 ? -11 : -12, x -> x.lay(row, 9, 1));
        }
        add("lay(-1, 0, 1)", Bounds.BAD, x -> x.lay(-1, 0, 1));
        add("lay(4, 0, 1)", Bounds.BAD, x -> x.lay(4, 0, 1));
        int[][] reads = {{-1, 0, 0, 1}, {4, 0, 0, 1}, {0, -1, 0, 1}, {0, 3, 0, 1}, {0, 0, 0, -1}, {0, 0, 0, 9}};
        for (int[] r : reads) add("read(" + r[0] + ", " + r[1] + ", " + r[2] + ", " + r[3] + ")", Bounds.BAD, x -> x.read(r[0], r[1], r[2], r[3]));
        add("read(2, 2, 0, 1)", -20, x -> x.read(2, 2, 0, 1));
        add("read(1, 1, 1, 1)", -20, x -> x.read(1, 1, 1, 1));
    }

    private void ofFull() {
        add("sort(1, 1, 1) of 8", Bounds.FULL, x -> x.sort(1, 1, 1));
        add("sort(0, 1, 1) of 8", Bounds.BAD, x -> x.sort(0, 1, 1));
        add("read(0, 0, 0, 1) of 8", Bounds.FULL, x -> x.read(0, 0, 0, 1));
        add("read(0, 0, 0, 8) of 8", Bounds.FULL, x -> x.read(0, 0, 0, 8));
        add("read(2, 2, 0, 1) of 8", -20, x -> x.read(2, 2, 0, 1));
        add("set(8, 1, 1) of 8", Bounds.BAD, x -> x.set(8, 1, 1));
    }

    /** What is only asked, also where it is tried out by a change, or by a SORT less. */
    private void ofAsking() {
        for (int kind = 0; kind <= 4; kind++) {
            int offer = kind;
            add("comes of " + kind, 0, x -> Math.min(0, x.comes(offer, 5, 50, 2)));
            add("sold of " + kind, 0, x -> Math.min(0, x.sold(offer, 5, 50, 1)));
            add("thought of " + kind, 1, x -> x.thought(offer, 5, 50, 0) != Bounds.FAR_BAD ? 1 : 0);
            add("rests of " + kind, 0, x -> Math.min(0, x.rests(offer, 5, 0)));
            add("fall of " + kind, 0, x -> Math.min(0, x.fall(offer, 5, 99, 1)));
            add("gain of " + kind, 1, x -> x.gain(offer, 5, 50) != Bounds.FAR_BAD ? 1 : 0);
            add("lost of " + kind, 0, x -> Math.min(0, x.lost(offer, 5, 50)));
            add("best of " + kind, 1, x -> x.best(offer, 5, 0) != Bounds.FAR_BAD ? 1 : 0);
        }
        for (int s = 0; s < 3; s++) {
            int sort = s;
            add("edge(" + s + ")", 1, x -> x.edge(sort) != Bounds.BAD ? 1 : 0);
            add("spur(" + s + ")", 1, x -> x.spur(sort) != Bounds.BAD ? 1 : 0);
        }
        for (int bits : new int[] {0, 1, 2, 4, 5, 6, 8, 12}) add("laws(" + bits + ", 9, 0)", 1, x -> x.laws(bits, 9, 0) != Bounds.FAR_BAD ? 1 : 0);
        add("all()", 1, x -> x.all() >= 0 ? 1 : 0);
        add("part(3, 0)", 1, x -> x.part(3, 0) != Bounds.BAD ? 1 : 0);
        add("part(0, 0)", Bounds.NONE, x -> x.part(0, 0));
        add("sharp()", 1, x -> x.sharp() != Bounds.BAD ? 1 : 0);
        add("days(0)", 1, x -> x.days(0) != Bounds.FAR_BAD ? 1 : 0);
        add("bestLaws(9, 0)", 1, x -> x.bestLaws(9, 0) != Bounds.FAR_BAD ? 1 : 0);
        add("learn(99, 99, 0)", 1, x -> x.learn(99, 99, 0) != Bounds.BAD ? 1 : 0);
        add("keep(9, 99)", 11, x -> x.keep(9, 99));
        add("fault()", 3, x -> x.fault());
        add("torn()", 2, x -> x.torn());
    }

    /** Behind a FAULT only THE TAPE is another: it is empty, and fault() tells of it. */
    private static void textThatIsRefused(Bounds b) {
        b.says(4, "THE TAPE (empty then) tells all");
        LemonMarket x = busy(false);
        LemonMarket y = busy(false);
        Bounds.lay(x, "keen 9;");
        b.due("text() with a FAULT", x.text(), -37);
        b.due("fault()", x.fault(), 4);
        b.due("count(4)", x.count(4), 0);
        y.end(0);
        Bounds.lay(x, WAITING);
        Bounds.lay(y, WAITING);
        List<Integer> got = stateOf(x);
        List<Integer> due = stateOf(y);
        int fault = 6 + 4 + 40;
        b.due("fault() was told of another text", due.set(fault, 4), 3);
        b.due("all else is as it was", got.equals(due) ? 1 : 0, 1);
    }

    private static void firstThatFits(Bounds b) {
        b.says(Bounds.TERMS, "the first that fits;");
        LemonMarket none = new LemonMarket();
        b.due("BAD ahead of NONE: thought", none.thought(5, 0, 0, 0), Bounds.FAR_BAD);
        b.due("BAD ahead of NONE: rests", none.rests(0, 0, 4), Bounds.BAD);
        b.due("BAD ahead of NONE: fall", none.fall(0, 0, 100, 0), Bounds.BAD);
        b.due("BAD ahead of NONE: best", none.best(0, -1, 0), Bounds.FAR_BAD);
        b.due("BAD ahead of NONE: part", none.part(-1, 0), Bounds.BAD);
        b.due("BAD ahead of NONE: days", none.days(-1), Bounds.FAR_BAD);
        b.due("BAD ahead of NONE: edge", none.edge(0), Bounds.BAD);
        b.due("BAD ahead of NONE: spur", none.spur(0), Bounds.BAD);
        b.due("BAD ahead of NONE: laws", none.laws(4, 0, 1), Bounds.FAR_BAD);
        LemonMarket full = busy(true);
        b.due("BAD ahead of FULL: sort", full.sort(1, 1, 100), Bounds.BAD);
        b.due("BAD ahead of FULL: read", full.read(0, 0, 0, 9), Bounds.BAD);
        b.due("BAD ahead of a FAULT: sheet", full.sheet(0, 3, -1), Bounds.BAD);
        b.due("BAD ahead of a FAULT: lay", full.lay(4, -1, 0), Bounds.BAD);
        b.due("NULL ahead of INDEX: lay", full.lay(3, -1, 0), -11);
    }
}
