/** Bounds of OFFERS: kind, w and p in every call that takes them; what comes, and what of it is SOLD. */
final class OfferBounds {
    private static final int[] KINDS = {Bounds.LOW, -2, -1, 0, 1, 2, 3, 4, 5, 6, 256, Bounds.HIGH};
    private static final int[] WS = {Bounds.LOW, -2, -1, 0, 1, 9, 10, 11, 12, 98, 99, 100, 101, 256, Bounds.HIGH};
    private static final int[] PS = {Bounds.LOW, -2, -1, 0, 1, 98, 99, 100, 101, 256, Bounds.HIGH};

    private OfferBounds() {
    }

    static void test(Bounds b) {
        offersOfEveryCall(b);
        pricesOfEveryCall(b);
        whatOfEveryCall(b);
        soldOfNoSort(b);
        wChangesNothing(b);
        plainComes(b);
        warrantComes(b);
        backComes(b);
        heapComes(b);
        thoseThatMust(b);
        heapHasNoMust(b);
        soldOfLooked(b);
        soldOfBack(b);
        soldOfTheOthers(b);
        comesAtMost(b);
    }

    private static LemonMarket market(Bounds b) {
        return b.told("sort 10 20 30;sort 20 40 60;sort 5 70 50;fail 0 10;fail 1 5;must 2 2;");
    }

    private static boolean isOffer(int kind, int w) {
        return Bounds.in(kind, 0, 4) && Bounds.in(w, 0, kind == 3 ? 10 : 99);
    }

    private static void badOnlyIf(Bounds b, boolean bad, String call, int got, int answer) {
        b.due(call + " is BAD", got == answer ? 1 : 0, bad ? 1 : 0);
    }

    private static void offersOfEveryCall(Bounds b) {
        b.says(Bounds.TERMS, "OFFERS (kind and w, 0 to 99 always, BACK 0 to 10)");
        for (int kind : KINDS) {
            LemonMarket x = market(b);
            for (int w : WS) {
                String offer = "(" + kind + ", " + w + ", ..)";
                boolean bad = !isOffer(kind, w);
                badOnlyIf(b, bad, "comes" + offer, x.comes(kind, w, 50, 0), Bounds.BAD);
                badOnlyIf(b, bad, "sold" + offer, x.sold(kind, w, 50, 0), Bounds.BAD);
                badOnlyIf(b, bad, "thought" + offer, x.thought(kind, w, 50, 0), Bounds.FAR_BAD);
                badOnlyIf(b, bad, "rests" + offer, x.rests(kind, w, 0), Bounds.BAD);
                badOnlyIf(b, bad, "fall" + offer, x.fall(kind, w, 50, 0), Bounds.BAD);
                badOnlyIf(b, bad, "gain" + offer, x.gain(kind, w, 50), Bounds.FAR_BAD);
                badOnlyIf(b, bad, "lost" + offer, x.lost(kind, w, 50), Bounds.BAD);
                badOnlyIf(b, bad, "best" + offer, x.best(kind, w, 0), Bounds.FAR_BAD);
            }
        }
    }

    private static void pricesOfEveryCall(Bounds b) {
        b.says(Bounds.TERMS, "At a price p (0 to 99) by an OFFER");
        for (int kind = 0; kind <= 4; kind++) {
            LemonMarket x = market(b);
            for (int p : PS) {
                String offer = "(" + kind + ", 5, " + p + ", ..)";
                boolean bad = !Bounds.in(p, 0, 99);
                for (int what = 0; what <= 2; what++) badOnlyIf(b, bad, "comes" + offer, x.comes(kind, 5, p, what), Bounds.BAD);
                badOnlyIf(b, bad, "sold" + offer, x.sold(kind, 5, p, 0), Bounds.BAD);
                for (int what = 0; what <= 1; what++) badOnlyIf(b, bad, "thought" + offer, x.thought(kind, 5, p, what), Bounds.FAR_BAD);
                for (int what : new int[] {0, 1, 10}) badOnlyIf(b, bad, "fall" + offer, x.fall(kind, 5, p, what), Bounds.BAD);
                badOnlyIf(b, bad, "gain" + offer, x.gain(kind, 5, p), Bounds.FAR_BAD);
                badOnlyIf(b, bad, "lost" + offer, x.lost(kind, 5, p), Bounds.BAD);
            }
        }
    }

    private static void whatOfEveryCall(Bounds b) {
        LemonMarket x = market(b);
        int[] whats = {Bounds.LOW, -11, -10, -2, -1, 0, 1, 2, 3, 4, 5, 8, 9, 10, 11, 98, 99, 100, 101, 256, Bounds.HIGH};
        b.says(10, "SORTS that come whole (bits; what 0), horses that come (1), parts SOLD (2). BAD.");
        for (int what : whats) badOnlyIf(b, !Bounds.in(what, 0, 2), "comes what " + what, x.comes(0, 0, 50, what), Bounds.BAD);
        b.says(12, "THOUGHT: 0 the numerator, 1 the denominator. BAD -1000000000;");
        for (int what : whats) badOnlyIf(b, !Bounds.in(what, 0, 1), "thought what " + what, x.thought(0, 0, 50, what), Bounds.FAR_BAD);
        b.says(13, "BAD.");
        for (int what : whats) badOnlyIf(b, !Bounds.in(what, 0, 3), "rests what " + what, x.rests(0, 0, what), Bounds.BAD);
        b.says(14, "(i 0 to 89; NONE: beyond). BAD.");
        for (int what : whats) badOnlyIf(b, !Bounds.in(what, 0, 1) && !Bounds.in(what, 10, 99), "fall what " + what, x.fall(0, 0, 50, what), Bounds.BAD);
        b.says(15, "GAIN. BAD -1000000000.");
        b.due("gain of a price of 100", x.gain(0, 0, 100), Bounds.FAR_BAD);
        b.says(16, "LOST. BAD.");
        b.due("lost of a price of 100", x.lost(0, 0, 100), Bounds.BAD);
        b.says(17, "BEST: the price (what 0), GAIN there (1). BAD -1000000000;");
        for (int what : whats) badOnlyIf(b, !Bounds.in(what, 0, 1), "best what " + what, x.best(0, 0, what), Bounds.FAR_BAD);
    }

    private static void soldOfNoSort(Bounds b) {
        b.says(11, "Parts SOLD of a SORT. BAD.");
        LemonMarket x = market(b);
        for (int kind = 0; kind <= 4; kind++) {
            for (int s : new int[] {Bounds.LOW, -1, 3, 4, 7, 8, Bounds.HIGH}) b.due("sold(" + kind + ", 0, 99, " + s + ")", x.sold(kind, 0, 99, s), Bounds.BAD);
            b.due("sold(" + kind + ", 0, 99, 2) is some", x.sold(kind, 0, 99, 2) > 0 ? 1 : 0, 1);
        }
        b.due("sold without SORTS", new LemonMarket().sold(0, 0, 99, 0), Bounds.BAD);
    }

    private static void wChangesNothing(Bounds b) {
        b.says(Bounds.TERMS, "0 PLAIN (w changes nothing).");
        wChangesNothing(b, 0);
        b.says(Bounds.TERMS, "2 LOOKED (w changes nothing)");
        wChangesNothing(b, 2);
        b.says(Bounds.TERMS, "4 HEAP (w changes nothing)");
        wChangesNothing(b, 4);
    }

    private static void wChangesNothing(Bounds b, int kind) {
        LemonMarket x = market(b);
        for (int w : new int[] {1, 10, 50, 99}) {
            String offer = "(" + kind + ", " + w + ", ..)";
            for (int p : new int[] {39, 70}) {
                for (int what = 0; what <= 2; what++) b.due("comes" + offer, x.comes(kind, w, p, what), x.comes(kind, 0, p, what));
                b.due("thought" + offer, x.thought(kind, w, p, 0), x.thought(kind, 0, p, 0));
                b.due("gain" + offer, x.gain(kind, w, p), x.gain(kind, 0, p));
                b.due("lost" + offer, x.lost(kind, w, p), x.lost(kind, 0, p));
                for (int s = 0; s < 3; s++) b.due("sold" + offer, x.sold(kind, w, p, s), x.sold(kind, 0, p, s));
            }
            b.due("rests" + offer, x.rests(kind, w, 0), x.rests(kind, 0, 0));
            b.due("fall" + offer, x.fall(kind, w, 99, 0), x.fall(kind, 0, 99, 0));
            b.due("best" + offer, x.best(kind, w, 1), x.best(kind, 0, 1));
        }
    }

    private static void plainComes(Bounds b) {
        b.says(Bounds.TERMS, "PLAIN, LOOKED: HAS is p at most.");
        for (int kind : new int[] {0, 2}) {
            for (int has = 0; has <= 99; has++) {
                LemonMarket x = new LemonMarket();
                x.sort(5, has, 50);
                if (has > 0) b.due("comes(" + kind + ", 0, HAS less 1, 0)", x.comes(kind, 0, has - 1, 0), 0);
                b.due("comes(" + kind + ", 0, HAS, 0)", x.comes(kind, 0, has, 0), 1);
                b.due("comes(" + kind + ", 0, 99, 1)", x.comes(kind, 0, 99, 1), 5);
                b.due("comes(" + kind + ", 0, 0, 1)", x.comes(kind, 0, 0, 1), has == 0 ? 5 : 0);
            }
        }
    }

    private static void warrantComes(Bounds b) {
        b.says(Bounds.TERMS, "WARRANT: HAS and FAIL of 10 times w, summed, are p at most.");
        // HAS, FAIL, w, and the first price at which it comes: 100, never.
        int[][] cases = {
            {10, 0, 99, 10}, {10, 1, 0, 10}, {10, 1, 1, 11}, {10, 1, 10, 11}, {10, 1, 11, 12}, {10, 10, 5, 15}, {10, 3, 3, 11}, {10, 5, 2, 11},
            {10, 5, 3, 12}, {0, 10, 99, 99}, {1, 10, 99, 100}, {0, 10, 98, 98}, {99, 0, 99, 99}, {99, 1, 1, 100}, {98, 1, 10, 99}, {98, 1, 11, 100}};
        for (int[] c : cases) {
            LemonMarket x = new LemonMarket();
            x.sort(5, c[0], 50);
            x.set(0, 3, c[1]);
            String sort = "HAS " + c[0] + ", FAIL " + c[1];
            for (int p = 0; p <= 99; p++) b.due(sort + ": comes(1, " + c[2] + ", " + p + ", 0)", x.comes(1, c[2], p, 0), p >= c[3] ? 1 : 0);
        }
    }

    private static void backComes(Bounds b) {
        b.says(Bounds.TERMS, "BACK: HAS is p at most, or FAIL times w is 100.");
        for (int fail = 0; fail <= 10; fail++) {
            LemonMarket x = b.told("sort 5 40 50;fail 0 " + fail + ";");
            for (int w = 0; w <= 10; w++) {
                boolean always = fail == 10 && w == 10;
                b.due("FAIL " + fail + ": comes(3, " + w + ", 0, 0)", x.comes(3, w, 0, 0), always ? 1 : 0);
                b.due("FAIL " + fail + ": comes(3, " + w + ", 39, 1)", x.comes(3, w, 39, 1), always ? 5 : 0);
                b.due("FAIL " + fail + ": comes(3, " + w + ", 40, 0)", x.comes(3, w, 40, 0), 1);
            }
        }
    }

    private static void heapComes(Bounds b) {
        b.says(Bounds.TERMS, "HEAP: HAS of all horses in the mean is p at most (then all SORTS do).");
        // A text, and the first price at which the heap comes.
        String[] texts = {
            "sort 5 40 1;", "sort 50 10 1;sort 1 10 1;", "sort 50 10 1;sort 1 11 1;", "sort 50 10 1;sort 1 9 1;",
            "sort 1 0 1;sort 1 99 1;", "sort 1 0 1;", "sort 50 99 1;", "sort 49 99 1;sort 1 98 1;"};
        int[] first = {40, 10, 11, 10, 50, 0, 99, 99};
        for (int i = 0; i < texts.length; i++) {
            LemonMarket x = b.told(texts[i]);
            int all = (1 << x.count(0)) - 1;
            for (int p = 0; p <= 99; p++) b.due("'" + texts[i] + "': comes(4, 0, " + p + ", 0)", x.comes(4, 0, p, 0), p >= first[i] ? all : 0);
        }
        LemonMarket eight = b.told("sort 50 99 1;".repeat(4) + "sort 50 0 1;".repeat(4));
        b.due("eight: comes(4, 0, 49, 0)", eight.comes(4, 0, 49, 0), 0);
        b.due("eight: comes(4, 0, 50, 0)", eight.comes(4, 0, 50, 0), 255);
        b.due("eight: comes(4, 0, 50, 1)", eight.comes(4, 0, 50, 1), 400);
        for (int what = 0; what <= 2; what++) b.due("comes(4, 0, 99, ..) without SORTS", new LemonMarket().comes(4, 0, 99, what), 0);
    }

    private static void thoseThatMust(Bounds b) {
        b.says(Bounds.TERMS, "Of a SORT that does not only those that MUST come");
        for (int must : new int[] {0, 1, 49, 50}) {
            for (int kind = 0; kind <= 3; kind++) {
                LemonMarket x = b.told("sort 50 40 50;must 0 " + must + ";");
                b.due("MUST " + must + ": comes(" + kind + ", 0, 39, 0)", x.comes(kind, 0, 39, 0), 0);
                b.due("MUST " + must + ": comes(" + kind + ", 0, 39, 1)", x.comes(kind, 0, 39, 1), must);
                b.due("MUST " + must + ": comes(" + kind + ", 0, 40, 0)", x.comes(kind, 0, 40, 0), 1);
                b.due("MUST " + must + ": comes(" + kind + ", 0, 40, 1)", x.comes(kind, 0, 40, 1), 50);
                b.due("MUST " + must + ": sold(" + kind + ", 0, 39, 0)", x.sold(kind, 0, 39, 0), must * (kind == 2 ? 600 : 800));
            }
        }
    }

    private static void heapHasNoMust(Bounds b) {
        b.says(Bounds.TERMS, "(HEAP: none)");
        LemonMarket x = b.told("sort 50 40 50;sort 1 40 50;must 0 50;");
        for (int what = 0; what <= 2; what++) b.due("comes(4, 0, 39, " + what + ")", x.comes(4, 0, 39, what), 0);
        b.due("sold(4, 0, 39, 0)", x.sold(4, 0, 39, 0), 0);
        b.due("comes(4, 0, 40, 1)", x.comes(4, 0, 40, 1), 51);
    }

    private static void soldOfLooked(Bounds b) {
        b.says(Bounds.TERMS, "LOOKED: 100 times LOOK, if it is GOOD, else 100 times 8 less LOOK.");
        for (int look = 4; look <= 8; look++) {
            LemonMarket x = b.told("sort 3 0 49;sort 50 0 50;look " + look + " 0;");
            b.due("LOOK " + look + ": sold(2, 0, 0, 0)", x.sold(2, 0, 0, 0), 3 * 100 * (8 - look));
            b.due("LOOK " + look + ": sold(2, 0, 0, 1)", x.sold(2, 0, 0, 1), 50 * 100 * look);
            b.due("LOOK " + look + ": comes(2, 0, 0, 1)", x.comes(2, 0, 0, 1), 53);
            b.due("LOOK " + look + ": comes(2, 0, 0, 2)", x.comes(2, 0, 0, 2), 2400 + 4700 * look);
        }
    }

    private static void soldOfBack(Bounds b) {
        b.says(Bounds.TERMS, "BACK: 8 times 100 less FAIL times w.");
        int[][] cases = {{0, 10, 800}, {10, 0, 800}, {1, 1, 792}, {9, 10, 80}, {10, 9, 80}, {10, 10, 0}, {5, 5, 600}};
        for (int[] c : cases) {
            LemonMarket x = b.told("sort 7 0 50;fail 0 " + c[0] + ";");
            b.due("FAIL " + c[0] + ": sold(3, " + c[1] + ", 0, 0)", x.sold(3, c[1], 0, 0), 7 * c[2]);
        }
    }

    private static void soldOfTheOthers(Bounds b) {
        b.says(Bounds.TERMS, "PLAIN, WARRANT, HEAP: 800 for each that comes.");
        LemonMarket x = b.told("sort 1 0 50;sort 50 0 0;fail 0 10;look 8 20;");
        for (int kind : new int[] {0, 1, 4}) {
            b.due("sold(" + kind + ", 0, 0, 0)", x.sold(kind, 0, 0, 0), 800);
            b.due("sold(" + kind + ", 0, 0, 1)", x.sold(kind, 0, 0, 1), 40000);
            b.due("sold(" + kind + ", 99, 99, 0)", x.sold(kind, 99, 99, 0), 800);
        }
        b.due("sold(1, 99, 98, 0)", x.sold(1, 99, 98, 0), 0);
    }

    private static void comesAtMost(Bounds b) {
        b.says(Bounds.TERMS, "1 SORTS (8) are numbered as they come");
        LemonMarket x = b.told("sort 50 99 99;".repeat(8) + "look 8 20;");
        for (int kind = 0; kind <= 4; kind++) {
            b.due("comes(" + kind + ", 0, 99, 0)", x.comes(kind, 0, 99, 0), 255);
            b.due("comes(" + kind + ", 0, 99, 1)", x.comes(kind, 0, 99, 1), 400);
            b.due("comes(" + kind + ", 0, 99, 2)", x.comes(kind, 0, 99, 2), 320000);
            for (int what = 0; what <= 2; what++) b.due("comes(" + kind + ", 0, 98, ..)", x.comes(kind, 0, 98, what), 0);
        }
        LemonMarket one = b.told("sort 1 50 1;".repeat(7) + "sort 1 10 1;");
        b.due("the bit of the 8th", one.comes(0, 0, 10, 0), 128);
    }
}
