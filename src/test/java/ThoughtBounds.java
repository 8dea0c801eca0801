/** Bounds of THOUGHT, of prices that REST, of FALL, GAIN, LOST and BEST. */
final class ThoughtBounds {
    // Of 50 horses one is worth a little less: THOUGHT is 39 and 49 of 50.
    private static final String JUST_BELOW_40 = "sort 49 0 40;sort 1 0 39;";
    // LOOKED of these is THOUGHT 1 and a half less 2.
    private static final String JUST_BELOW_0 = "sort 1 0 1;sort 1 0 2;look 4 1;";

    private ThoughtBounds() {
    }

    static void test(Bounds b) {
        lowestTerms(b);
        thoughtBelowNothing(b);
        thoughtOfNothing(b);
        thoughtAtMost(b);
        rests(b);
        restsNone(b);
        fallEnds(b);
        fallEndsAsNone(b);
        fallBeyond(b);
        gainAndPay(b);
        lostAbove(b);
        bestOfSeveral(b);
        bestOfNone(b);
        allAbove(b);
    }

    private static void thoughtIs(Bounds b, String text, int kind, int w, int p, int numerator, int denominator) {
        LemonMarket x = b.told(text);
        String call = "'" + text + "': thought(" + kind + ", " + w + ", " + p + ", ";
        b.due(call + "0)", x.thought(kind, w, p, 0), numerator);
        b.due(call + "1)", x.thought(kind, w, p, 1), denominator);
    }

    private static void lowestTerms(Bounds b) {
        b.says(Bounds.TERMS, "Fractions are in lowest terms, the denominator above 0 (0 is 0 by 1).");
        thoughtIs(b, "sort 5 0 0;", 0, 0, 0, 0, 1);
        thoughtIs(b, "sort 5 0 2;look 4 1;", 2, 0, 0, 0, 1);
        thoughtIs(b, "sort 5 0 1;", 0, 0, 0, 1, 1);
        thoughtIs(b, JUST_BELOW_40, 0, 0, 0, 1999, 50);
        thoughtIs(b, "sort 3 0 10;sort 4 0 11;", 0, 0, 0, 74, 7);
        thoughtIs(b, "sort 4 0 10;sort 2 0 4;", 4, 0, 0, 8, 1);
        thoughtIs(b, "sort 50 0 0;".repeat(7) + "sort 47 0 1;", 0, 0, 0, 47, 397);
        thoughtIs(b, "sort 5 0 0;fail 0 1;", 1, 1, 1, 1, 10);
        thoughtIs(b, "sort 5 0 0;fail 0 5;", 1, 2, 1, 1, 1);
        thoughtIs(b, JUST_BELOW_0, 2, 0, 0, -1, 2);
        thoughtIs(b, "sort 3 5 1;look 5 20;", 2, 0, 5, -157, 3);
        thoughtIs(b, "sort 1 0 10;sort 1 0 20;fail 1 1;", 3, 1, 0, 2980, 199);
    }

    private static void thoughtBelowNothing(Bounds b) {
        b.says(Bounds.TERMS, "LOOKED: less PAY for each that comes, shared by those that are SOLD (it can be below 0).");
        thoughtIs(b, "sort 5 0 0;look 7 20;", 2, 0, 0, -160, 1);
        thoughtIs(b, "sort 50 0 0;".repeat(8) + "look 7 20;", 2, 0, 0, -160, 1);
        thoughtIs(b, "sort 5 0 0;look 7 0;", 2, 0, 0, 0, 1);
        thoughtIs(b, "sort 5 0 99;look 8 20;", 2, 0, 0, 79, 1);
        // Those that are not SOLD are paid for, too: 5 looked at for 3 each, only one of them SOLD at all.
        thoughtIs(b, "sort 1 0 50;sort 4 0 0;look 8 3;", 2, 0, 0, 35, 1);
        thoughtIs(b, "sort 1 0 50;sort 4 9 0;look 8 3;", 2, 0, 8, 47, 1);
    }

    private static void thoughtOfNothing(Bounds b) {
        b.says(12, "NONE -1000000004.");
        for (int kind = 0; kind <= 4; kind++) {
            thoughtIs(b, "", kind, 0, 99, Bounds.FAR_NONE, Bounds.FAR_NONE);
            thoughtIs(b, "sort 5 40 50;", kind, 0, 39, Bounds.FAR_NONE, Bounds.FAR_NONE);
            thoughtIs(b, "sort 5 40 50;look 8 0;", kind, 0, 40, 50, 1);
            thoughtIs(b, "sort 5 40 50;must 0 1;look 8 0;", kind, 0, 39, kind == 4 ? Bounds.FAR_NONE : 50, kind == 4 ? Bounds.FAR_NONE : 1);
            b.due("thought of a wrong number without SORTS", new LemonMarket().thought(kind, 0, 100, 0), Bounds.FAR_BAD);
        }
        b.says(Bounds.TERMS, "NONE, if nothing is SOLD.");
        // All come, and nothing is SOLD: he errs never, all are given back.
        thoughtIs(b, "sort 5 0 49;look 8 1;", 2, 0, 99, Bounds.FAR_NONE, Bounds.FAR_NONE);
        thoughtIs(b, "sort 5 0 49;look 7 0;", 2, 0, 99, 49, 1);
        thoughtIs(b, "sort 5 0 50;fail 0 10;", 3, 10, 99, Bounds.FAR_NONE, Bounds.FAR_NONE);
        thoughtIs(b, "sort 5 0 50;fail 0 10;", 3, 9, 99, 50, 1);
    }

    private static void thoughtAtMost(Bounds b) {
        b.says(Bounds.TERMS, "WARRANT: and FAIL of 10 times w more;");
        thoughtIs(b, "sort 50 0 99;fail 0 10;", 1, 99, 99, 198, 1);
        thoughtIs(b, "sort 50 0 99;", 1, 99, 99, 99, 1);
        thoughtIs(b, "sort 50 0 99;fail 0 10;", 1, 0, 99, 99, 1);
        LemonMarket x = b.told("sort 50 0 99;".repeat(8));
        for (int s = 0; s < 8; s++) x.set(s, 3, 10);
        b.due("eight: thought(1, 99, 99, 0)", x.thought(1, 99, 99, 0), 198);
        b.due("eight: thought(1, 99, 99, 1)", x.thought(1, 99, 99, 1), 1);
    }

    private static void restsAre(Bounds b, String text, int kind, int w, int... due) {
        LemonMarket x = b.told(text);
        for (int i = 0; i < 4; i++) b.due("'" + text + "': rests(" + kind + ", " + w + ", " + i + ")", x.rests(kind, w, i), due[i]);
    }

    private static void rests(Bounds b) {
        b.says(Bounds.TERMS, "A price RESTS: THOUGHT is p at least.");
        restsAre(b, "sort 5 40 40;", 0, 0, 1, 40, 40, 40);
        restsAre(b, "sort 5 39 40;", 0, 0, 2, 39, 40, 39);
        restsAre(b, "sort 5 0 0;", 0, 0, 1, 0, 0, 0);
        restsAre(b, "sort 5 99 99;", 0, 0, 1, 99, 99, 99);
        restsAre(b, "sort 5 0 99;", 0, 0, 100, 0, 99, 0);
        restsAre(b, "sort 50 0 40;", 0, 0, 41, 0, 40, 0);
        restsAre(b, JUST_BELOW_40, 0, 0, 40, 0, 39, 0);
        restsAre(b, "sort 5 39 39;fail 0 1;", 1, 9, 0, Bounds.NONE, Bounds.NONE, Bounds.NONE);
        restsAre(b, "sort 5 39 39;fail 0 1;", 1, 10, 1, 40, 40, 40);
        restsAre(b, "sort 5 0 99;fail 0 10;", 1, 99, 1, 99, 99, 99);
        restsAre(b, "sort 5 0 2;look 4 1;", 2, 0, 1, 0, 0, 0);
        b.says(13, "that with the most parts SOLD, of several the least (3; NONE).");
        restsAre(b, "sort 5 10 50;sort 5 30 50;", 0, 0, 41, 10, 50, 30);
        restsAre(b, "sort 5 10 50;sort 5 50 50;", 0, 0, 41, 10, 50, 50);
        restsAre(b, "sort 5 10 50;sort 5 51 50;", 0, 0, 41, 10, 50, 10);
    }

    private static void restsNone(Bounds b) {
        b.says(13, "Prices that REST: how many (what 0), the least (1; NONE), the greatest (2; NONE)");
        int[] none = {0, Bounds.NONE, Bounds.NONE, Bounds.NONE};
        for (int kind = 0; kind <= 4; kind++) {
            restsAre(b, "", kind, 0, none);
            restsAre(b, "sort 5 40 39;", kind, 0, none);
            b.due("rests of a wrong number without SORTS", new LemonMarket().rests(kind, 100, 1), Bounds.BAD);
        }
        restsAre(b, JUST_BELOW_0, 2, 0, none);
        restsAre(b, "sort 5 0 49;look 8 0;", 2, 0, none);
        restsAre(b, "sort 5 0 50;fail 0 10;", 3, 10, none);
        // It would be THOUGHT 198 and come at 100, which is no price.
        restsAre(b, "sort 5 1 99;fail 0 10;", 1, 99, none);
    }

    /** FALL by these prices, of which the last is the one at which it ends, or ends as NONE. */
    private static void fallIs(Bounds b, String text, int kind, boolean rests, int... prices) {
        LemonMarket x = b.told(text);
        int steps = prices.length - 1;
        String call = "'" + text + "': fall(" + kind + ", 0, " + prices[0] + ", ";
        b.due(call + "0)", x.fall(kind, 0, prices[0], 0), rests ? prices[steps] : Bounds.NONE);
        b.due(call + "1)", x.fall(kind, 0, prices[0], 1), steps);
        for (int i = 0; i <= 89; i++) b.due(call + (10 + i) + ")", x.fall(kind, 0, prices[0], 10 + i), i <= steps ? prices[i] : Bounds.NONE);
    }

    private static void fallEnds(Bounds b) {
        b.says(Bounds.TERMS, "it ends at a price that RESTS;");
        fallIs(b, "sort 5 40 40;", 0, true, 40);
        fallIs(b, "sort 5 40 40;", 0, true, 41, 40);
        fallIs(b, "sort 5 40 40;", 0, true, 99, 40);
        fallIs(b, "sort 5 99 99;", 0, true, 99);
        b.says(Bounds.TERMS, "Divided down is to the next whole number below.");
        fallIs(b, JUST_BELOW_40, 0, true, 39);
        fallIs(b, JUST_BELOW_40, 0, true, 40, 39);
        fallIs(b, JUST_BELOW_40, 0, true, 99, 39);
        fallIs(b, "sort 1 0 1;sort 1 0 0;", 0, true, 1, 0);
        fallIs(b, "sort 49 0 1;sort 1 0 0;", 0, true, 99, 0);
        b.says(Bounds.TERMS, "p becomes THOUGHT divided down, 0 at least (a step);");
        fallIs(b, "sort 5 0 0;", 0, true, 0);
        fallIs(b, "sort 5 0 0;", 0, true, 1, 0);
        fallIs(b, JUST_BELOW_0, 2, false, 1, 0);
        fallIs(b, JUST_BELOW_0, 2, false, 99, 0);
        fallIs(b, "sort 5 0 0;look 7 20;", 2, false, 99, 0);
    }

    private static void fallEndsAsNone(Bounds b) {
        b.says(Bounds.TERMS, "or, as NONE, at one at which nothing is SOLD");
        for (int kind = 0; kind <= 4; kind++) {
            fallIs(b, "", kind, false, 99);
            fallIs(b, "", kind, false, 0);
            fallIs(b, "sort 5 40 40;", kind, false, 39);
        }
        fallIs(b, "sort 5 50 20;", 0, false, 50, 20);
        fallIs(b, "sort 5 50 0;", 0, false, 99, 0);
        fallIs(b, "sort 5 1 0;", 0, false, 1, 0);
        fallIs(b, "sort 5 0 49;look 8 0;", 2, false, 50);
        b.says(Bounds.TERMS, "or at 0, if THOUGHT is below 0.");
        fallIs(b, JUST_BELOW_0, 2, false, 0);
        fallIs(b, "sort 5 0 0;look 7 20;", 2, false, 0);
        fallIs(b, "sort 5 0 2;look 4 1;", 2, true, 0);
        fallIs(b, "sort 5 0 2;look 4 1;", 2, true, 1, 0);
        fallIs(b, "sort 5 0 1;look 4 1;", 2, false, 1, 0);
    }

    private static void fallBeyond(Bounds b) {
        b.says(14, "10 and i: the price behind i steps (i 0 to 89; NONE: beyond).");
        // Each SORT more is worth a little less than the last one HAS: at every step one stays away.
        StringBuilder text = new StringBuilder();
        for (int s = 0; s < 8; s++) text.append("sort 1 ").append(10 + 5 * s).append(' ').append(9 + 10 * s).append(';');
        fallIs(b, text.toString(), 0, false, 99, 44, 39, 34, 29, 24, 19, 14, 9);
        fallIs(b, text + "must 0 1;", 0, true, 99, 44, 39, 34, 29, 24, 19, 14, 9);
        LemonMarket x = new LemonMarket();
        b.due("fall(0, 0, 50, 9)", x.fall(0, 0, 50, 9), Bounds.BAD);
        b.due("fall(0, 0, 50, 10)", x.fall(0, 0, 50, 10), 50);
        b.due("fall(0, 0, 50, 99)", x.fall(0, 0, 50, 99), Bounds.NONE);
        b.due("fall(0, 0, 50, 100)", x.fall(0, 0, 50, 100), Bounds.BAD);
    }

    private static void gainAndPay(Bounds b) {
        b.says(Bounds.TERMS, "LOOKED: less 800 times PAY for each that comes.");
        // They are paid for though nothing is SOLD, and those that MUST are, too.
        b.due("gain(2, 0, 0)", b.told("sort 5 0 0;look 8 20;").gain(2, 0, 0), -80000);
        b.due("gain(2, 0, 8)", b.told("sort 5 9 0;must 0 2;look 8 20;").gain(2, 0, 8), -32000);
        b.due("gain(2, 0, 8)", b.told("sort 5 9 0;look 8 20;").gain(2, 0, 8), 0);
        b.due("gain(2, 0, 99)", b.told("sort 50 99 0;".repeat(8) + "look 4 20;").gain(2, 0, 99), -15840000 - 6400000);
        b.due("gain(0, 0, 99)", b.told("sort 50 99 0;".repeat(8)).gain(0, 0, 99), -31680000);
        b.due("gain(0, 0, 0)", b.told("sort 50 0 99;".repeat(8)).gain(0, 0, 0), 31680000);
        b.due("gain(0, 0, 99) without SORTS", new LemonMarket().gain(0, 0, 99), 0);
    }

    private static void lostAbove(Bounds b) {
        b.says(Bounds.TERMS, "LOST at p: over SORTS whose WOULD is above HAS");
        LemonMarket x = b.told("sort 5 40 39;sort 7 40 40;sort 3 40 41;sort 1 0 0;");
        b.due("lost(0, 0, 39)", x.lost(0, 0, 39), 2400);
        b.due("lost(0, 0, 40)", x.lost(0, 0, 40), 0);
        x.set(2, 4, 3);
        b.due("lost(0, 0, 39), all MUST", x.lost(0, 0, 39), 0);
        b.due("lost(0, 0, 0)", b.told("sort 50 1 99;".repeat(8)).lost(0, 0, 0), 320000 * 98);
        b.due("lost(3, 10, 0)", b.told("sort 50 0 99;fail 0 10;").lost(3, 10, 0), 3960000);
        b.due("lost(2, 0, 0)", b.told("sort 50 0 49;look 8 20;").lost(2, 0, 0), 1960000);
        b.due("lost(0, 0, 99) without SORTS", new LemonMarket().lost(0, 0, 99), 0);
    }

    private static void bestIs(Bounds b, String text, int kind, int w, int price, int gain) {
        LemonMarket x = b.told(text);
        b.due("'" + text + "': best(" + kind + ", " + w + ", 0)", x.best(kind, w, 0), price);
        b.due("'" + text + "': best(" + kind + ", " + w + ", 1)", x.best(kind, w, 1), gain);
    }

    private static void bestOfSeveral(Bounds b) {
        b.says(Bounds.TERMS, "of prices that REST the one with the greatest GAIN, of several the least.");
        bestIs(b, "sort 5 10 20;", 0, 0, 10, 40000);
        bestIs(b, "sort 5 99 99;", 0, 0, 99, 0);
        bestIs(b, "sort 5 0 0;", 0, 0, 0, 0);
        // One that does not gain is as good, and one that loses by 1 is worse, at a greater price.
        bestIs(b, "sort 5 10 80;sort 5 30 30;", 0, 0, 10, 280000);
        bestIs(b, "sort 5 10 80;sort 5 30 31;", 0, 0, 30, 284000);
        bestIs(b, "sort 5 10 80;sort 5 30 29;", 0, 0, 10, 280000);
        // The greatest GAIN of all is at a price that does not REST: 41 where 40 is THOUGHT.
        bestIs(b, "sort 5 0 20;sort 5 40 60;", 0, 0, 40, 160000);
        bestIs(b, "sort 5 0 20;sort 5 41 60;", 0, 0, 0, 80000);
        bestIs(b, "sort 5 40 20;must 0 1;", 0, 0, 0, -16000);
    }

    private static void bestOfNone(Bounds b) {
        b.says(17, "NONE -1000000004.");
        for (int kind = 0; kind <= 4; kind++) {
            bestIs(b, "", kind, 0, Bounds.FAR_NONE, Bounds.FAR_NONE);
            bestIs(b, "sort 5 40 39;", kind, 0, Bounds.FAR_NONE, Bounds.FAR_NONE);
            bestIs(b, "sort 5 40 80;look 8 0;", kind, 0, 40, 160000);
            b.due("best of a wrong number without SORTS", new LemonMarket().best(kind, 0, 2), Bounds.FAR_BAD);
        }
        bestIs(b, JUST_BELOW_0, 2, 0, Bounds.FAR_NONE, Bounds.FAR_NONE);
        bestIs(b, "sort 5 1 99;fail 0 10;", 1, 98, 99, 392000);
        bestIs(b, "sort 5 1 99;fail 0 10;", 1, 99, Bounds.FAR_NONE, Bounds.FAR_NONE);
    }

    private static void allAbove(Bounds b) {
        b.says(18, "GAIN, if all horses whose WOULD is above HAS were sold and no others: the most there could be.");
        b.due("all() without SORTS", new LemonMarket().all(), 0);
        b.due("all() of WOULD one below HAS", b.told("sort 5 40 39;must 0 5;").all(), 0);
        b.due("all() of WOULD as HAS", b.told("sort 5 40 40;").all(), 0);
        b.due("all() of WOULD one above HAS", b.told("sort 5 40 41;").all(), 4000);
        b.due("all() of those above alone", b.told("sort 5 40 39;sort 7 40 40;sort 3 40 41;").all(), 2400);
        b.due("all() at most", b.told("sort 50 0 99;".repeat(8)).all(), 31680000);
    }
}
