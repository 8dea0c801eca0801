/** Bounds of what mends it: PART, SHARP, days, KEEP, EDGE, SPUR, LEARN. */
final class MendBounds {
    private MendBounds() {
    }

    static void test(Bounds b) {
        partNumbers(b);
        partOfJustThose(b);
        partOneAtLeast(b);
        partFirstAndLast(b);
        sharpFromFourToEight(b);
        sharpOneAtLeast(b);
        daysLeastOfSeveral(b);
        daysOfNone(b);
        keepFewest(b);
        keepNumbers(b);
        edgeAboveNothing(b);
        edgeNoneAndBad(b);
        spurFewest(b);
        spurOneAtLeast(b);
        spurNoneAndBad(b);
        learnNumbers(b);
        learnRounds(b);
        learnForGood(b);
    }

    private static void partIs(Bounds b, String text, int f, int w, int price) {
        LemonMarket x = b.told(text);
        b.due("'" + text + "': part(" + f + ", 0)", x.part(f, 0), w);
        b.due("'" + text + "': part(" + f + ", 1)", x.part(f, 1), price);
    }

    private static void partNumbers(Bounds b) {
        b.says(19, "PART: w (what 0), the least such price (1). BAD; NONE.");
        LemonMarket x = b.told("sort 5 10 90;");
        for (int f = -3; f <= 12; f++) {
            b.due("part(" + f + ", 0)", x.part(f, 0), Bounds.in(f, 0, 9) ? 0 : Bounds.BAD);
            b.due("part(" + f + ", 1)", x.part(f, 1), Bounds.in(f, 0, 9) ? 10 : Bounds.BAD);
        }
        for (int f : new int[] {Bounds.LOW, Bounds.HIGH, 256}) b.due("part(" + f + ", 0)", x.part(f, 0), Bounds.BAD);
        for (int what : new int[] {Bounds.LOW, -1, 2, 3, Bounds.HIGH}) b.due("part(0, " + what + ")", x.part(0, what), Bounds.BAD);
        b.due("part(10, 0) without SORTS", new LemonMarket().part(10, 0), Bounds.BAD);
        b.due("part(0, 2) without SORTS", new LemonMarket().part(0, 2), Bounds.BAD);
    }

    private static void partOfJustThose(Bounds b) {
        b.says(Bounds.TERMS, "some price RESTS at which just those SORTS come whole whose FAIL is f at most");
        // By 13 the first asks 23.9 and the other 24.2: at 24 just the first comes; by 12 they ask 23.6 and 23.8.
        String two = "sort 5 20 90;sort 5 19 5;fail 0 3;fail 1 4;";
        partIs(b, two, 3, 13, 24);
        partIs(b, two, 4, 0, 20);
        partIs(b, two, 9, 0, 20);
        // All of it MUST, and yet it does not come whole.
        partIs(b, two + "must 1 5;", 3, 13, 24);
        // Just the first comes whole at 40, and the one that MUST is thought a tenth of w more.
        partIs(b, "sort 1 40 60;sort 1 90 20;must 1 1;fail 1 1;", 0, 0, 40);
        partIs(b, "sort 1 40 59;sort 1 90 20;must 1 1;fail 1 1;", 0, 10, 40);
        partIs(b, "sort 1 40 58;sort 1 90 20;must 1 1;fail 1 1;", 0, 20, 40);
    }

    private static void partOneAtLeast(Bounds b) {
        b.says(Bounds.TERMS, "whose FAIL is f at most (one at least).");
        for (int f = 0; f <= 9; f++) {
            partIs(b, "", f, Bounds.NONE, Bounds.NONE);
            // One that FAILS just so often is one of them, one that FAILS once more is none.
            partIs(b, "sort 5 10 90;fail 0 " + f + ";", f, 0, 10);
            partIs(b, "sort 5 10 90;must 0 5;fail 0 " + (f + 1) + ";", f, Bounds.NONE, Bounds.NONE);
        }
    }

    private static void partFirstAndLast(Bounds b) {
        b.says(Bounds.TERMS, "PART by f (0 to 9): the least w so that by WARRANT of it");
        partIs(b, "sort 5 0 0;", 0, 0, 0);
        partIs(b, "sort 5 99 99;", 0, 0, 99);
        partIs(b, "sort 5 99 98;", 0, Bounds.NONE, Bounds.NONE);
        // What the one that MUST is thought grows by w by 10: 99 is the last w, 100 would be too much.
        partIs(b, "sort 5 50 50;sort 5 99 40;must 1 5;fail 1 1;", 0, Bounds.NONE, Bounds.NONE);
        partIs(b, "sort 5 50 50;sort 5 99 41;must 1 5;fail 1 1;", 0, 90, 50);
        partIs(b, "sort 10 50 50;sort 10 99 40;sort 1 99 60;must 1 10;must 2 1;fail 1 1;fail 2 1;", 0, 82, 50);
        partIs(b, "sort 1 50 9;sort 1 99 11;must 1 1;fail 1 8;", 0, Bounds.NONE, Bounds.NONE);
        partIs(b, "sort 1 50 9;sort 1 99 12;must 1 1;fail 1 8;", 0, 99, 50);
        // The price is 99 at most: by 10 the first asks 99, by 11 it asks 99.1.
        partIs(b, "sort 1 98 99;sort 1 94 99;fail 0 1;fail 1 6;", 1, 9, 99);
        partIs(b, "sort 1 98 99;sort 1 94 99;fail 0 1;fail 1 5;", 1, Bounds.NONE, Bounds.NONE);
    }

    private static void sharpFromFourToEight(Bounds b) {
        b.says(20, "SHARP. NONE: not by 8.");
        // Of two that come alike many, worth 10 and 90: 50 is THOUGHT by 4, and 10 more by each step to 90 by 8.
        for (int has = 40; has <= 99; has++) {
            int due = has <= 50 ? 4 : has <= 60 ? 5 : has <= 70 ? 6 : has <= 80 ? 7 : has <= 90 ? 8 : Bounds.NONE;
            for (int look : new int[] {4, 8}) {
                LemonMarket x = b.told("sort 5 0 10;sort 5 " + has + " 90;look " + look + " 0;");
                b.due("HAS " + has + ", LOOK " + look + ": sharp()", x.sharp(), due);
                b.due("LOOK stays", x.rule(1), look);
            }
        }
        b.due("sharp() by 8 at 99", b.told("sort 5 0 0;sort 5 99 99;look 4 0;").sharp(), 8);
        // Those that MUST of another spoil it: 58 is THOUGHT by 6, and 72 and two ninths by 7.
        b.due("sharp() with others that MUST", b.told("sort 5 0 10;sort 5 60 90;sort 5 99 10;must 2 5;look 4 0;").sharp(), 7);
        b.due("sharp() at a price of 0", b.told("sort 5 0 0;mark 0;look 4 0;").sharp(), 4);
        b.due("sharp() below a price of 0", b.told("sort 5 0 0;mark 0;look 4 1;").sharp(), Bounds.NONE);
    }

    private static void sharpOneAtLeast(Bounds b) {
        b.says(Bounds.TERMS, "at which all GOOD SORTS come whole (one at least).");
        b.due("sharp() without SORTS", new LemonMarket().sharp(), Bounds.NONE);
        b.due("sharp() of WOULD one below MARK", b.told("sort 5 0 49;look 4 0;").sharp(), Bounds.NONE);
        b.due("sharp() of WOULD as MARK", b.told("sort 5 0 50;look 4 0;").sharp(), 4);
        // All GOOD ones: the second comes at 70, where 60 is THOUGHT of both.
        b.due("sharp() of two", b.told("sort 5 0 50;sort 5 70 70;look 4 0;").sharp(), Bounds.NONE);
        b.due("sharp() of two", b.told("sort 5 0 50;sort 5 60 70;look 4 0;").sharp(), 4);
        // All MUST, and yet it does not come whole at a price that RESTS.
        b.due("sharp() of one that MUST", b.told("sort 5 61 60;must 0 5;look 4 0;").sharp(), Bounds.NONE);
        b.due("sharp() of one that MUST", b.told("sort 5 60 60;must 0 5;look 4 0;").sharp(), 4);
    }

    private static void daysAre(Bounds b, String text, int w, int gain) {
        LemonMarket x = b.told(text);
        b.due("'" + text + "': days(0)", x.days(0), w);
        b.due("'" + text + "': days(1)", x.days(1), gain);
    }

    private static void daysLeastOfSeveral(Bounds b) {
        b.says(21, "The least w of BACK by which BEST has the greatest GAIN of all w (what 0), that GAIN (1).");
        daysAre(b, "sort 5 10 20;", 0, 40000);
        daysAre(b, "sort 5 10 20;fail 0 10;", 0, 40000);
        // One that is dearer than it is worth comes with it: the more of it are given back, the better.
        daysAre(b, "sort 5 10 20;sort 5 9 0;fail 1 10;", 10, 40000);
        daysAre(b, "sort 5 10 20;sort 5 9 0;fail 1 9;", 10, 40000 - 400 * 9);
        // Those that MUST are sold at a loss: the more of them are given back, the less it is.
        daysAre(b, "sort 5 40 20;must 0 1;", 0, -16000);
        daysAre(b, "sort 5 40 20;must 0 1;fail 0 1;", 10, -14400);
        // By 10 nothing of it is SOLD, and no price RESTS: 9 is the last.
        daysAre(b, "sort 5 40 20;must 0 1;fail 0 10;", 9, -1600);
        b.says(21, "BAD -1000000000;");
        LemonMarket x = b.told("sort 5 10 20;");
        for (int what : new int[] {Bounds.LOW, -1, 2, 3, Bounds.HIGH}) b.due("days(" + what + ")", x.days(what), Bounds.FAR_BAD);
        b.due("days(2) without SORTS", new LemonMarket().days(2), Bounds.FAR_BAD);
    }

    private static void daysOfNone(Bounds b) {
        b.says(21, "NONE -1000000004: no price RESTS by any.");
        daysAre(b, "", Bounds.FAR_NONE, Bounds.FAR_NONE);
        daysAre(b, "sort 5 40 39;", Bounds.FAR_NONE, Bounds.FAR_NONE);
        daysAre(b, "sort 5 40 39;fail 0 10;", Bounds.FAR_NONE, Bounds.FAR_NONE);
        daysAre(b, "sort 5 40 40;", 0, 0);
        // Only by 10 does a price REST: what is worth nothing does not spoil the price then.
        daysAre(b, "sort 1 40 40;sort 50 30 0;fail 1 10;", 10, 0);
    }

    private static void keepFewest(Bounds b) {
        b.says(Bounds.TERMS, "KEEP a NAME: the fewest years so that g times them are d at least.");
        for (int g : new int[] {1, 2, 7, 10, 50, 98, 99}) {
            LemonMarket x = null;
            int years = 0;
            for (int d = 0; d <= 999; d++) {
                if (d % 500 == 0) x = new LemonMarket();
                if (g * years < d) years++;
                b.due("keep(" + g + ", " + d + ")", x.keep(g, d), years);
            }
        }
    }

    private static void keepNumbers(Bounds b) {
        b.says(22, "KEEP a NAME: g (1 to 99), d (0 to 999). BAD.");
        LemonMarket x = new LemonMarket();
        int[] gs = {Bounds.LOW, -100, -1, 0, 1, 2, 98, 99, 100, 101, Bounds.HIGH};
        int[] ds = {Bounds.LOW, -100, -1, 0, 998, 999, 1000, 1001, Bounds.HIGH};
        for (int g : gs) {
            for (int d : ds) {
                boolean bad = !Bounds.in(g, 1, 99) || !Bounds.in(d, 0, 999);
                b.due("keep(" + g + ", " + d + ") is BAD", x.keep(g, d) == Bounds.BAD ? 1 : 0, bad ? 1 : 0);
            }
        }
    }

    private static void edgeIs(Bounds b, String text, int s, int due) {
        LemonMarket x = b.told(text);
        b.due("'" + text + "': edge(" + s + ")", x.edge(s), due);
        // What it is worth now is not asked, and stays.
        for (int would : new int[] {0, 99}) {
            x.set(s, 2, would);
            b.due("'" + text + "', WOULD " + would + ": edge(" + s + ")", x.edge(s), due);
            b.due("WOULD stays", x.of(s, 2), would);
        }
    }

    private static void edgeAboveNothing(Bounds b) {
        b.says(Bounds.TERMS, "the least WOULD of it, all else as it is, by which a price above 0 RESTS (PLAIN) at which it COMES whole.");
        edgeIs(b, "sort 5 0 50;", 0, 1);
        edgeIs(b, "sort 5 1 50;", 0, 1);
        edgeIs(b, "sort 5 2 50;", 0, 2);
        edgeIs(b, "sort 5 99 50;", 0, 99);
        edgeIs(b, "sort 1 0 50;sort 1 0 1;", 0, 1);
        edgeIs(b, "sort 1 0 50;sort 1 0 2;", 0, 0);
        // At 30 each horse of the first lacks 10; the last of these would be 36 and two thirds.
        edgeIs(b, "sort 5 0 20;sort 5 30 0;", 1, 40);
        edgeIs(b, "sort 2 0 20;sort 4 30 0;", 1, 35);
        edgeIs(b, "sort 2 0 20;sort 3 30 0;", 1, 37);
        // At a greater price the other comes, too, and mends more than the price is more.
        edgeIs(b, "sort 5 30 0;sort 5 40 99;", 0, 0);
        edgeIs(b, "sort 5 30 0;sort 5 60 99;", 0, 21);
        // Others that MUST mend it: each of them brings 20 at 30.
        edgeIs(b, "sort 5 0 20;sort 5 30 0;sort 5 99 50;must 2 5;", 1, 20);
        // All of it MUST, and yet it does not come whole below 10.
        edgeIs(b, "sort 5 10 50;must 0 5;", 0, 10);
    }

    private static void edgeNoneAndBad(Bounds b) {
        b.says(23, "EDGE. BAD; NONE.");
        edgeIs(b, "sort 5 0 21;sort 5 60 0;", 1, 99);
        edgeIs(b, "sort 5 0 20;sort 5 60 0;", 1, Bounds.NONE);
        edgeIs(b, "sort 50 0 0;sort 1 1 0;", 1, 51);
        edgeIs(b, "sort 50 0 0;sort 50 0 0;sort 1 1 0;", 2, Bounds.NONE);
        edgeIs(b, "sort 49 0 0;sort 49 0 0;sort 1 1 0;", 2, 99);
        LemonMarket x = b.told("sort 5 0 50;sort 5 0 50;");
        for (int s : new int[] {Bounds.LOW, -1, 2, 3, 7, 8, Bounds.HIGH}) b.due("edge(" + s + ")", x.edge(s), Bounds.BAD);
        b.due("edge(0) without SORTS", new LemonMarket().edge(0), Bounds.BAD);
    }

    private static void spurIs(Bounds b, String text, int s, int due) {
        LemonMarket x = b.told(text);
        b.due("'" + text + "': spur(" + s + ")", x.spur(s), due);
        // How many of it MUST now is not asked, and stays.
        for (int must : new int[] {0, x.of(s, 0)}) {
            x.set(s, 4, must);
            b.due("'" + text + "', MUST " + must + ": spur(" + s + ")", x.spur(s), due);
            b.due("MUST stays", x.of(s, 4), must);
        }
    }

    private static void spurFewest(Bounds b) {
        b.says(Bounds.TERMS, "SPUR of a SORT: the fewest of it that MUST so that a price RESTS (PLAIN) at which all SORTS come whole whose WOULD is above HAS");
        // At 40 the first two are asked 800, and thought 410 to 900; one of the third brings 50.
        spurIs(b, "sort 10 40 41;sort 10 0 0;sort 10 95 90;", 2, 8);
        spurIs(b, "sort 10 40 50;sort 10 0 0;sort 10 95 90;", 2, 6);
        spurIs(b, "sort 10 40 50;sort 10 40 40;sort 10 95 90;", 2, 0);
        spurIs(b, "sort 10 40 50;sort 10 39 30;sort 10 95 90;", 2, 0);
        spurIs(b, "sort 10 40 50;sort 10 39 29;sort 10 95 90;", 2, 1);
        spurIs(b, "sort 5 10 50;sort 5 90 20;", 1, 0);
        // Nothing lacks, whether one more of it would mend, spoil or change nothing.
        spurIs(b, "sort 5 40 41;sort 5 40 39;", 0, 0);
        spurIs(b, "sort 5 40 41;sort 5 40 39;", 1, 0);
        spurIs(b, "sort 5 40 41;sort 5 40 39;sort 5 41 9;", 2, 0);
        // How many of another MUST is as it is: 6 are enough, 5 are not.
        spurIs(b, "sort 10 40 50;sort 10 0 0;sort 10 95 90;must 2 6;", 0, 0);
        spurIs(b, "sort 10 40 50;sort 10 0 0;sort 10 95 90;must 2 5;", 0, Bounds.NONE);
        spurIs(b, "sort 5 10 50;", 0, 0);
        spurIs(b, "sort 1 0 1;sort 50 0 0;", 1, 0);
    }

    private static void spurOneAtLeast(Bounds b) {
        b.says(Bounds.TERMS, "whose WOULD is above HAS (one at least).");
        spurIs(b, "sort 5 50 49;", 0, Bounds.NONE);
        spurIs(b, "sort 5 50 50;", 0, Bounds.NONE);
        spurIs(b, "sort 5 50 51;", 0, 0);
        spurIs(b, "sort 5 0 0;sort 5 99 99;", 1, Bounds.NONE);
        // All of them: at 60 the second comes, too, and 49 or 50 is THOUGHT.
        spurIs(b, "sort 5 0 40;sort 5 60 80;sort 5 90 90;", 2, 0);
        spurIs(b, "sort 5 0 40;sort 5 60 78;sort 5 90 90;", 2, 1);
    }

    private static void spurNoneAndBad(Bounds b) {
        b.says(24, "SPUR. BAD; NONE.");
        spurIs(b, "sort 10 40 50;sort 10 0 0;sort 6 95 90;", 2, 6);
        spurIs(b, "sort 10 40 50;sort 10 0 0;sort 5 95 90;", 2, Bounds.NONE);
        // One that is worth the price mends nothing; one that is worth 1 more does, of 40 of them.
        spurIs(b, "sort 10 40 50;sort 50 50 40;sort 10 30 26;", 1, Bounds.NONE);
        spurIs(b, "sort 10 40 50;sort 50 50 41;sort 10 30 26;", 1, 40);
        spurIs(b, "sort 10 40 50;sort 50 50 41;sort 10 30 25;", 1, 50);
        spurIs(b, "sort 10 40 50;sort 49 50 41;sort 10 30 25;", 1, Bounds.NONE);
        LemonMarket x = b.told("sort 5 10 50;sort 5 10 50;");
        for (int s : new int[] {Bounds.LOW, -1, 2, 3, 7, 8, Bounds.HIGH}) b.due("spur(" + s + ")", x.spur(s), Bounds.BAD);
        b.due("spur(0) without SORTS", new LemonMarket().spur(0), Bounds.BAD);
    }

    private static void learnNumbers(Bounds b) {
        b.says(27, "BAD.");
        LemonMarket x = b.told("sort 5 0 33;keen 3;");
        int[] numbers = {Bounds.LOW, -2, -1, 0, 1, 98, 99, 100, 101, Bounds.HIGH};
        for (int v : numbers) {
            boolean bad = !Bounds.in(v, 0, 99);
            for (int what = 0; what <= 1; what++) {
                b.due("learn(" + v + ", 0, " + what + ") is BAD", x.learn(v, 0, what) == Bounds.BAD ? 1 : 0, bad ? 1 : 0);
                b.due("learn(50, " + v + ", " + what + ") is BAD", x.learn(50, v, what) == Bounds.BAD ? 1 : 0, bad ? 1 : 0);
            }
            b.due("learn(50, 5, " + v + ") is BAD", x.learn(50, 5, v) == Bounds.BAD ? 1 : 0, Bounds.in(v, 0, 1) ? 0 : 1);
        }
        b.due("learn(50, 5, 2)", x.learn(50, 5, 2), Bounds.BAD);
    }

    private static void learnRounds(Bounds b) {
        b.says(Bounds.TERMS, "KEEN times (THOUGHT, PLAIN, divided down; 0, if nothing is SOLD) and (10 less KEEN) times p, summed, then by 10, divided down.");
        for (int keen = 1; keen <= 10; keen++) {
            // Nothing is SOLD below 99: 0 is THOUGHT.
            LemonMarket none = b.told("sort 5 99 99;keen " + keen + ";");
            for (int p : new int[] {0, 1, 9, 50, 98}) b.due("KEEN " + keen + ": learn(" + p + ", 1, 0)", none.learn(p, 1, 0), (10 - keen) * p / 10);
            b.due("KEEN " + keen + ": learn(99, 1, 0)", none.learn(99, 1, 0), 99);
            // 39 and 49 of 50 is THOUGHT: 39 it is.
            LemonMarket below = b.told("sort 49 0 40;sort 1 0 39;keen " + keen + ";");
            for (int p : new int[] {0, 39, 40, 99}) b.due("KEEN " + keen + ": learn(" + p + ", 1, 0)", below.learn(p, 1, 0), (39 * keen + (10 - keen) * p) / 10);
            LemonMarket without = b.told("keen " + keen + ";");
            b.due("KEEN " + keen + ": learn(99, 1, 0) without SORTS", without.learn(99, 1, 0), (10 - keen) * 99 / 10);
        }
        b.due("KEEN as at first", b.told("sort 5 0 33;").learn(50, 1, 0), 41);
        // LEARN asks PLAIN alone: what is paid for a look or a warrant is nothing to it.
        b.due("PLAIN", b.told("sort 5 0 33;fail 0 10;look 8 20;keen 10;").learn(50, 1, 0), 33);
    }

    private static void learnForGood(Bounds b) {
        b.says(27, "LEARN: p behind n (0 to 99) rounds (what 0), the first round behind which p stays as it is for good (1; NONE: not in 99).");
        LemonMarket x = b.told("sort 10 0 33;keen 3;");
        int[] path = {99, 79, 65, 55, 48, 43, 40, 37, 35, 34, 33, 33};
        for (int n = 0; n < path.length; n++) {
            b.due("learn(99, " + n + ", 0)", x.learn(99, n, 0), path[n]);
            b.due("learn(" + path[n] + ", 0, 1)", x.learn(path[n], 0, 1), Math.max(0, 10 - n));
        }
        for (int n : new int[] {0, 5, 10, 98, 99}) b.due("learn(99, " + n + ", 1) does not ask n", x.learn(99, n, 1), 10);
        b.due("learn(99, 99, 0)", x.learn(99, 99, 0), 33);
        // By 10 it turns between 45 and 90 for ever: the last rounds differ, and none is for good.
        LemonMarket turns = b.told("sort 10 0 90;sort 10 50 0;keen 10;");
        b.due("learn(45, 0, 0)", turns.learn(45, 0, 0), 45);
        b.due("learn(45, 98, 0)", turns.learn(45, 98, 0), 45);
        b.due("learn(45, 99, 0)", turns.learn(45, 99, 0), 90);
        for (int p = 0; p <= 99; p++) b.due("learn(" + p + ", 0, 1)", turns.learn(p, 0, 1), Bounds.NONE);
        slowly(b);
    }

    /** Many rounds: whenever the price has gone down by 10, another SORT stays away, and less is THOUGHT. */
    private static void slowly(Bounds b) {
        // 89 is THOUGHT from 90 on, 79 from 80 on, and so on to 19 from 20 on; below nothing is SOLD.
        LemonMarket x = b.told("sort 2 20 19;sort 1 30 49;sort 2 40 54;sort 5 50 59;sort 5 60 79;sort 10 70 84;sort 25 80 89;sort 50 90 99;keen 1;");
        for (int n = 0; n <= 80; n++) b.due("learn(99, " + n + ", 0)", x.learn(99, n, 0), 99 - n);
        int[] last = {19, 17, 15, 13, 11, 9, 8, 7, 6, 5, 4, 3, 2, 1, 0, 0, 0, 0, 0, 0};
        for (int n = 80; n <= 99; n++) b.due("learn(99, " + n + ", 0)", x.learn(99, n, 0), last[n - 80]);
        b.due("learn(99, 0, 1)", x.learn(99, 0, 1), 94);
    }
}
