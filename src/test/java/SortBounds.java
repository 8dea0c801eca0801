/** Bounds of SORTS and rules: a new object, sort, set, of, rule, count. */
final class SortBounds {
    private static final int[] LEAST = {1, 0, 0, 0, 0};
    private static final int[] MOST = {50, 99, 99, 10, 50};
    private static final int[] FAR = {Bounds.LOW, Bounds.LOW + 1, -1000, -100, -2, -1, 256, 1000, 65536, Bounds.HIGH - 1, Bounds.HIGH};

    private SortBounds() {
    }

    static void test(Bounds b) {
        answers(b);
        newObject(b);
        sortNumbers(b);
        sortIsFull(b);
        setNumbers(b);
        setManyAndMust(b);
        noSuchSort(b);
        goodAtMark(b);
        ruleNumbers(b);
        rulesAtFirst(b);
        countNumbers(b);
        countNothing(b);
    }

    private static void answers(Bounds b) {
        b.says(Bounds.TERMS, "Answers: BAD -1 (a number is not as told, there is no such SORT, OFFER, SHEET), STATE -2 (as told), FULL -3, NONE -4 (there is none)");
        b.due("BAD", LemonMarket.BAD, -1);
        b.due("STATE", LemonMarket.STATE, -2);
        b.due("FULL", LemonMarket.FULL, -3);
        b.due("NONE", LemonMarket.NONE, -4);
    }

    private static void newObject(Bounds b) {
        b.says(1, "As told at first; no SORTS; SHEETS have nothing.");
        LemonMarket x = new LemonMarket();
        int[] rules = {50, 6, 1, 5};
        for (int i = 0; i < 4; i++) b.due("rule(" + i + ")", x.rule(i), rules[i]);
        int[] counts = {0, 0, 0, 0, 0, Bounds.NONE};
        for (int i = 0; i < 6; i++) b.due("count(" + i + ")", x.count(i), counts[i]);
        b.due("of(0, 0)", x.of(0, 0), Bounds.BAD);
        for (int k = 0; k < 4; k++) {
            b.due("lay(" + k + ", 0, 0)", x.lay(k, 0, 0), -11);
            for (int lane = 0; lane < 3; lane++) {
                b.due("read(" + k + ", " + lane + ", 0, 1)", x.read(k, lane, 0, 1), 0);
                b.due("torn()", x.torn(), 1);
            }
        }
        // Objects have nothing of one another.
        LemonMarket y = b.told("sort 1 1 1;mark 1;");
        y.sheet(0, 0, 5);
        b.due("count(0)", new LemonMarket().count(0), 0);
        b.due("rule(0)", new LemonMarket().rule(0), 50);
        b.due("count(5)", new LemonMarket().count(5), Bounds.NONE);
    }

    private static int sortOf(int what, int v) {
        LemonMarket x = new LemonMarket();
        int got = x.sort(what == 0 ? v : 5, what == 1 ? v : 5, what == 2 ? v : 5);
        return got == 0 && x.of(0, what) != v ? -99 : got;
    }

    private static void sortNumbers(Bounds b) {
        b.says(6, "A SORT (FAIL 0, MUST 0): its number. BAD;");
        for (int what = 0; what <= 2; what++) {
            for (int v = -3; v <= 103; v++) b.due("sort of " + what + ": " + v, sortOf(what, v), Bounds.in(v, LEAST[what], MOST[what]) ? 0 : Bounds.BAD);
            for (int v : FAR) b.due("sort of " + what + ": " + v, sortOf(what, v), Bounds.BAD);
        }
        LemonMarket x = b.told("sort 5 5 5;fail 0 9;must 0 5;");
        x.text();
        b.due("sort where a SORT was", x.sort(50, 99, 0), 0);
        b.due("FAIL", x.of(0, 3), 0);
        b.due("MUST", x.of(0, 4), 0);
    }

    private static void sortIsFull(Bounds b) {
        b.says(6, "FULL.");
        LemonMarket x = new LemonMarket();
        for (int s = 0; s < 8; s++) b.due("sort " + s, x.sort(s + 1, s, s), s);
        b.due("the 9th", x.sort(1, 1, 1), Bounds.FULL);
        b.due("the 9th, which is BAD", x.sort(51, 1, 1), Bounds.BAD);
        b.due("the 9th, which is BAD", x.sort(1, 100, 1), Bounds.BAD);
        b.due("the 9th, which is BAD", x.sort(1, 1, -1), Bounds.BAD);
        b.due("count(0)", x.count(0), 8);
        for (int s = 0; s < 8; s++) b.due("of(" + s + ", 0)", x.of(s, 0), s + 1);
        LemonMarket y = b.told("sort 1 1 1;".repeat(7));
        b.due("the 8th behind a text", y.sort(1, 1, 1), 7);
        b.due("the 9th behind a text", y.sort(1, 1, 1), Bounds.FULL);
        y.text();
        b.due("sort behind an empty text", y.sort(1, 1, 1), 0);
    }

    private static void setNumbers(Bounds b) {
        b.says(7, "Of a SORT what (0 MANY, 1 HAS, 2 WOULD, 3 FAIL, 4 MUST) becomes v: what it was. BAD");
        for (int what = 0; what <= 4; what++) {
            LemonMarket x = new LemonMarket();
            x.sort(50, 20, 30);
            int was = x.of(0, what);
            for (int v = -3; v <= 103; v++) {
                boolean fits = Bounds.in(v, LEAST[what], MOST[what]);
                b.due("set(0, " + what + ", " + v + ")", x.set(0, what, v), fits ? was : Bounds.BAD);
                was = fits ? v : was;
                b.due("of(0, " + what + ")", x.of(0, what), was);
            }
            for (int v : FAR) b.due("set(0, " + what + ", " + v + ")", x.set(0, what, v), Bounds.BAD);
            b.due("of(0, " + what + ")", x.of(0, what), was);
        }
        LemonMarket x = b.told("sort 5 5 5;");
        for (int what : new int[] {-2, -1, 5, 6, Bounds.LOW, Bounds.HIGH}) b.due("set(0, " + what + ", 1)", x.set(0, what, 1), Bounds.BAD);
        b.due("GOOD is not set", x.of(0, 5), 0);
    }

    private static void setManyAndMust(Bounds b) {
        b.says(Bounds.TERMS, "how many of them MUST be sold (0 to MANY; 0).");
        for (int many = 1; many <= 50; many++) {
            LemonMarket x = new LemonMarket();
            x.sort(many, 1, 1);
            for (int v = -1; v <= 51; v++) b.due("MUST " + v + " of " + many, x.set(0, 4, v), !Bounds.in(v, 0, many) ? Bounds.BAD : v == 0 ? 0 : v - 1);
        }
        b.says(7, "(MUST above MANY, MANY below MUST, too).");
        for (int many : new int[] {1, 2, 25, 49, 50}) {
            LemonMarket x = new LemonMarket();
            x.sort(50, 1, 1);
            x.sort(many, 1, 1);
            b.due("MUST one above MANY", x.set(1, 4, many + 1), Bounds.BAD);
            b.due("MUST is MANY", x.set(1, 4, many), 0);
            b.due("MANY one below MUST", x.set(1, 0, many - 1), Bounds.BAD);
            b.due("MANY as it is", x.set(1, 0, many), many);
            b.due("MUST stays", x.of(1, 4), many);
            b.due("MUST one below MANY", x.set(1, 4, many - 1), many);
            b.due("MANY down to MUST", x.set(1, 0, many - 1), many == 1 ? Bounds.BAD : many);
            b.due("another SORT", x.set(0, 4, 50), 0);
        }
    }

    private static void noSuchSort(Bounds b) {
        b.says(Bounds.TERMS, "there is no such SORT");
        for (int sorts = 0; sorts <= 8; sorts++) {
            LemonMarket x = new LemonMarket();
            for (int s = 0; s < sorts; s++) x.sort(10 + s, 1, 1);
            for (int s = -2; s <= 10; s++) {
                boolean is = Bounds.in(s, 0, sorts - 1);
                b.due("of(" + s + ", 0) of " + sorts, x.of(s, 0), is ? 10 + s : Bounds.BAD);
                b.due("set(" + s + ", 3, 1) of " + sorts, x.set(s, 3, 1), is ? 0 : Bounds.BAD);
            }
            for (int s : new int[] {Bounds.LOW, Bounds.HIGH, 256, -256}) b.due("of(" + s + ", 0)", x.of(s, 0), Bounds.BAD);
            for (int s : new int[] {Bounds.LOW, Bounds.HIGH, 256, -256}) b.due("set(" + s + ", 3, 1)", x.set(s, 3, 1), Bounds.BAD);
        }
        b.says(8, "5 whether it is GOOD (1, 0). BAD.");
        LemonMarket x = b.told("sort 5 5 5;");
        for (int what : new int[] {-2, -1, 6, 7, Bounds.LOW, Bounds.HIGH}) b.due("of(0, " + what + ")", x.of(0, what), Bounds.BAD);
        for (int what = 0; what <= 5; what++) b.due("of(0, " + what + ") is not BAD", x.of(0, what) >= 0 ? 1 : 0, 1);
    }

    private static void goodAtMark(Bounds b) {
        b.says(Bounds.TERMS, "GOOD: WOULD is MARK (0 to 99; 50) at least.");
        for (int mark : new int[] {0, 1, 49, 50, 51, 98, 99}) {
            LemonMarket x = b.told("mark " + mark + ";sort 5 99 0;");
            for (int would = 0; would <= 99; would++) {
                x.set(0, 2, would);
                b.due("MARK " + mark + ", WOULD " + would, x.of(0, 5), would >= mark ? 1 : 0);
                b.due("count(3)", x.count(3), would >= mark ? 1 : 0);
            }
        }
        b.due("49 by a MARK that is not told", b.told("sort 1 1 49;").of(0, 5), 0);
        b.due("50 by a MARK that is not told", b.told("sort 1 1 50;").of(0, 5), 1);
    }

    private static void ruleNumbers(Bounds b) {
        b.says(9, "What holds: 0 MARK, 1 LOOK, 2 PAY, 3 KEEN. BAD.");
        int[][] told = {{0, 4, 0, 1}, {99, 8, 20, 10}, {50, 6, 1, 5}};
        for (int[] r : told) {
            LemonMarket x = b.told("mark " + r[0] + ";look " + r[1] + " " + r[2] + ";keen " + r[3] + ";");
            for (int i = 0; i < 4; i++) b.due("rule(" + i + ")", x.rule(i), r[i]);
            for (int i : new int[] {-2, -1, 4, 5, Bounds.LOW, Bounds.HIGH}) b.due("rule(" + i + ")", x.rule(i), Bounds.BAD);
        }
    }

    private static void rulesAtFirst(Bounds b) {
        b.says(Bounds.TERMS, "LOOK: of 8 so many a looker sees right (4 to 8; 6), for a PAY (0 to 20; 1). KEEN (1 to 10; 5).");
        // One that is told leaves the others as they are at first.
        String[] texts = {"", "mark 9;", "look 8 20;", "keen 10;"};
        int[][] rules = {{50, 6, 1, 5}, {9, 6, 1, 5}, {50, 8, 20, 5}, {50, 6, 1, 10}};
        for (int t = 0; t < 4; t++) {
            LemonMarket x = b.told("mark 77;look 5 3;keen 2;");
            Bounds.lay(x, texts[t]);
            x.text();
            for (int i = 0; i < 4; i++) b.due("'" + texts[t] + "': rule(" + i + ")", x.rule(i), rules[t][i]);
        }
    }

    private static void countNumbers(Bounds b) {
        b.says(32, "How many: 0 SORTS, 1 horses, 2 those that MUST, 3 GOOD SORTS, 4 bytes on THE TAPE");
        LemonMarket x = b.told("sort 50 0 99;".repeat(8));
        for (int s = 0; s < 8; s++) x.set(s, 4, 50);
        for (int i = 0; i < 30; i++) x.feed(0);
        x.sheet(0, 1, 40);
        int[] most = {8, 400, 400, 8, 240, 40};
        for (int i = 0; i < 6; i++) b.due("count(" + i + ")", x.count(i), most[i]);
        b.says(32, "BAD.");
        for (int i : new int[] {-2, -1, 6, 7, Bounds.LOW, Bounds.HIGH}) b.due("count(" + i + ")", x.count(i), Bounds.BAD);
    }

    private static void countNothing(Bounds b) {
        b.says(32, "5 CELLS of SHEET 0 (NONE: nothing).");
        LemonMarket x = new LemonMarket();
        for (int k = 1; k < 4; k++) x.sheet(k, 0, 9);
        b.due("count(5) of nothing", x.count(5), Bounds.NONE);
        x.sheet(0, 0, -1);
        b.due("count(5) of nothing", x.count(5), Bounds.NONE);
        for (int n : new int[] {0, 1, 40, 39, 0}) {
            x.sheet(0, n % 3, n);
            b.due("count(5)", x.count(5), n);
        }
    }
}
