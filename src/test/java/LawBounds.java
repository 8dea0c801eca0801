/** Bounds of LAWS and of the best of them. */
final class LawBounds {
    private LawBounds() {
    }

    static void test(Bounds b) {
        lawsThatGoTogether(b);
        lawsNumbers(b);
        lawsWithoutSorts(b);
        boughtOut(b);
        outcomeOfNone(b);
        bestOfSeveral(b);
        bestLawsNumbers(b);
    }

    private static boolean goTogether(int bits) {
        return bits == 0 || bits == 1 || bits == 2 || bits == 4 || bits == 5 || bits == 6 || bits == 8 || bits == 12;
    }

    private static void lawsThatGoTogether(Bounds b) {
        b.says(Bounds.TERMS, "of 1, 2, 8 one at most (none: PLAIN).");
        LemonMarket x = b.told("sort 10 10 20;sort 10 50 60;fail 0 10;look 8 1;");
        for (int bits = -17; bits <= 33; bits++) {
            int bad = goTogether(bits) ? 0 : 1;
            for (int what = 0; what <= 1; what++) b.due("laws(" + bits + ", 5, " + what + ") is BAD", x.laws(bits, 5, what) == Bounds.FAR_BAD ? 1 : 0, bad);
        }
        int[] far = {Bounds.LOW, Bounds.LOW + 4, 256, 256 + 4, Bounds.HIGH, Bounds.HIGH - 7};
        for (int bits : far) b.due("laws(" + bits + ", 5, 0)", x.laws(bits, 5, 0), Bounds.FAR_BAD);
        // Each is the OFFER that it tells; none is PLAIN.
        int[] kinds = {0, 1, 2, 4};
        int[] laws = {0, 1, 2, 8};
        for (int i = 0; i < 4; i++) {
            b.due("laws(" + laws[i] + ", 41, 0)", x.laws(laws[i], 41, 0), x.best(kinds[i], 41, 1));
            b.due("laws(" + laws[i] + ", 41, 1)", x.laws(laws[i], 41, 1), x.best(kinds[i], 41, 0));
        }
    }

    private static void lawsNumbers(Bounds b) {
        b.says(25, "OUTCOME of LAWS with a w (0 to 99): what 0; the price (1; NONE -1000000004: none RESTS). BAD -1000000000:");
        LemonMarket x = b.told("sort 10 10 20;sort 10 50 60;fail 0 10;look 8 1;");
        for (int bits : new int[] {0, 1, 2, 4, 5, 6, 8, 12}) {
            for (int w : new int[] {Bounds.LOW, -1, 0, 1, 10, 11, 98, 99, 100, 101, Bounds.HIGH}) {
                b.due("laws(" + bits + ", " + w + ", 0) is BAD", x.laws(bits, w, 0) == Bounds.FAR_BAD ? 1 : 0, Bounds.in(w, 0, 99) ? 0 : 1);
            }
            for (int what : new int[] {Bounds.LOW, -1, 2, 3, Bounds.HIGH}) b.due("laws(" + bits + ", 0, " + what + ")", x.laws(bits, 0, what), Bounds.FAR_BAD);
        }
    }

    private static void lawsWithoutSorts(Bounds b) {
        b.says(25, "also 4 without SORTS.");
        LemonMarket x = new LemonMarket();
        for (int bits = 0; bits <= 15; bits++) {
            boolean may = goTogether(bits) && (bits & 4) == 0;
            b.due("laws(" + bits + ", 0, 0)", x.laws(bits, 0, 0), may ? 0 : Bounds.FAR_BAD);
            b.due("laws(" + bits + ", 0, 1)", x.laws(bits, 0, 1), may ? Bounds.FAR_NONE : Bounds.FAR_BAD);
        }
        x.sort(2, 3, 50);
        for (int bits : new int[] {4, 5, 6, 12}) {
            b.due("laws(" + bits + ", 0, 0) of one SORT", x.laws(bits, 0, 0), -4800);
            b.due("laws(" + bits + ", 0, 1) of one SORT", x.laws(bits, 0, 1), Bounds.FAR_NONE);
        }
        b.due("the SORT stays", x.count(0), 1);
    }

    private static void boughtOut(Bounds b) {
        b.says(Bounds.TERMS, "4 the SORT of the least WOULD (of several the first) is bought out");
        // What is left is told by its price, what went by its cost.
        String[] texts = {
            "sort 1 10 30;sort 1 20 30;", "sort 1 10 30;sort 1 20 29;", "sort 1 10 29;sort 1 20 30;",
            "sort 1 9 40;sort 1 10 30;sort 1 20 30;", "sort 1 9 30;sort 1 10 40;sort 1 20 30;"};
        int[] prices = {20, 10, 20, 20, 20};
        int[] costs = {10, 20, 10, 10, 9};
        int[] gains = {10, 20, 10, 41, 40};
        for (int i = 0; i < texts.length; i++) {
            LemonMarket x = b.told(texts[i]);
            b.due("'" + texts[i] + "': laws(4, 0, 1)", x.laws(4, 0, 1), prices[i]);
            b.due("'" + texts[i] + "': laws(4, 0, 0)", x.laws(4, 0, 0), 800 * (gains[i] - costs[i]));
        }
        LemonMarket last = b.told("sort 1 0 9;".repeat(7) + "sort 50 99 0;");
        b.due("the 8th: laws(4, 0, 0)", last.laws(4, 0, 0), 800 * (63 - 4950));
        // MUST and FAIL of those behind it go along with them.
        LemonMarket behind = b.told("sort 1 0 0;sort 2 95 90;sort 3 20 60;must 1 2;fail 2 10;");
        b.due("MUST goes along: laws(4, 0, 0)", behind.laws(4, 0, 0), 2400 * 40 - 1600 * 5);
        b.due("FAIL goes along: laws(5, 9, 1)", behind.laws(5, 9, 1), 29);
        // He who looks errs as is told: at WOULD 60 by a MARK of 60 all are SOLD, by one of 61 none.
        b.due("laws(6, 0, 0)", b.told("sort 10 10 20;sort 10 50 60;mark 60;look 8 1;").laws(6, 0, 0), 80000 - 8000 - 80000);
        b.due("laws(6, 0, 0)", b.told("sort 10 10 20;sort 10 50 60;mark 61;look 8 1;").laws(6, 0, 0), -80000);
        LemonMarket free = b.told("sort 50 0 0;sort 1 0 9;");
        b.due("one that costs nothing: laws(4, 0, 0)", free.laws(4, 0, 0), 7200);
    }

    private static void outcomeOfNone(Bounds b) {
        b.says(Bounds.TERMS, "without the SORT that is bought out GAIN at BEST (0, if no price RESTS), less 800 times its MANY times its HAS.");
        LemonMarket none = b.told("sort 5 40 39;sort 50 99 98;");
        for (int bits : new int[] {0, 1, 2, 8}) {
            b.due("laws(" + bits + ", 0, 0)", none.laws(bits, 0, 0), 0);
            b.due("laws(" + bits + ", 0, 1)", none.laws(bits, 0, 1), Bounds.FAR_NONE);
        }
        for (int bits : new int[] {4, 5, 6, 12}) {
            b.due("laws(" + bits + ", 0, 0)", none.laws(bits, 0, 0), -160000);
            b.due("laws(" + bits + ", 0, 1)", none.laws(bits, 0, 1), Bounds.FAR_NONE);
        }
        // It would come at 100 alone, which is no price.
        LemonMarket dear = b.told("sort 5 1 99;fail 0 10;");
        b.due("laws(1, 98, 1)", dear.laws(1, 98, 1), 99);
        b.due("laws(1, 99, 1)", dear.laws(1, 99, 1), Bounds.FAR_NONE);
        b.due("laws(1, 99, 0)", dear.laws(1, 99, 0), 0);
        b.due("the most that is paid", b.told("sort 50 99 0;").laws(4, 0, 0), -3960000);
        // A GAIN below 0 at the only prices that REST is the OUTCOME, not 0.
        b.due("a GAIN below 0", b.told("sort 5 40 20;must 0 1;").laws(0, 0, 0), -16000);
    }

    private static void bestIs(Bounds b, LemonMarket x, int w, int bits, int outcome) {
        b.due("bestLaws(" + w + ", 0)", x.bestLaws(w, 0), bits);
        b.due("bestLaws(" + w + ", 1)", x.bestLaws(w, 1), outcome);
    }

    private static void bestOfSeveral(Bounds b) {
        b.says(26, "Of all LAWS that go together (4 only with SORTS) those with the greatest OUTCOME, of several the least bits (what 0), that OUTCOME (1).");
        bestIs(b, new LemonMarket(), 0, 0, 0);
        bestIs(b, new LemonMarket(), 99, 0, 0);
        // Nothing is to be had by any: 0 by 0, 1, 2 and 8, and by 4 where it costs nothing.
        bestIs(b, b.told("sort 5 40 39;"), 0, 0, 0);
        bestIs(b, b.told("sort 5 0 0;look 4 1;"), 0, 0, 0);
        // By a WARRANT of 40 both come at 50 and are THOUGHT 60, by one of 20 just so; by 19 only as a heap.
        LemonMarket warrant = b.told("sort 10 10 20;sort 10 50 60;fail 0 10;");
        bestIs(b, warrant, 40, 1, 160000);
        bestIs(b, warrant, 20, 1, 160000);
        bestIs(b, warrant, 19, 8, 160000);
        // Only a look leaves the first unsold; to buy it out is dearer, and the heap takes it along.
        bestIs(b, b.told("sort 10 5 0;sort 10 50 60;look 8 1;"), 0, 2, 80000 - 16000);
        // To buy it out costs nothing: 4, 5, 8 and 12 are alike, and more than 2.
        bestIs(b, b.told("sort 10 0 0;sort 10 50 60;look 8 1;"), 0, 4, 80000);
        // Those that MUST at a loss come by every OFFER but the heap.
        bestIs(b, b.told("sort 10 40 20;must 0 5;"), 0, 8, 0);
    }

    private static void bestLawsNumbers(Bounds b) {
        b.says(26, "BAD -1000000000.");
        LemonMarket x = b.told("sort 10 10 20;");
        for (int w : new int[] {Bounds.LOW, -2, -1, 0, 1, 98, 99, 100, 101, Bounds.HIGH}) {
            int bad = Bounds.in(w, 0, 99) ? 0 : 1;
            for (int what = 0; what <= 1; what++) b.due("bestLaws(" + w + ", " + what + ") is BAD", x.bestLaws(w, what) == Bounds.FAR_BAD ? 1 : 0, bad);
        }
        for (int what : new int[] {Bounds.LOW, -1, 2, 3, Bounds.HIGH}) b.due("bestLaws(0, " + what + ")", x.bestLaws(0, what), Bounds.FAR_BAD);
        b.due("bestLaws(100, 0) without SORTS", new LemonMarket().bestLaws(100, 0), Bounds.FAR_BAD);
    }
}
