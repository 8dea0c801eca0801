/** Sentences of the Terms that name no bound: what they say, worked out by hand on one market. */
final class Meanings {
    // Of the second and the third SORT a looker should say that they are GOOD.
    private static final String MARKET = "sort 10 20 30;sort 20 40 60;sort 5 70 50;fail 0 10;fail 1 5;must 2 2;";

    private Meanings() {
    }

    static void test(Bounds b) {
        lines(b);
        warrant(b);
        looked(b);
        back(b);
        heap(b);
        comesAndSold(b);
        thoughtInTheMean(b);
        fall(b);
        gain(b);
        lost(b);
        best(b);
        laws(b);
        outcomes(b);
        learn(b);
        edge(b);
        sharp(b);
        ofASort(b);
        fallAsked(b);
    }

    private static void lines(Bounds b) {
        b.says(Bounds.TERMS, "line: sort N N N ; | fail N N ; | must N N ; | mark N ; | look N N ; | keen N ;");
        b.taken("sort 9 8 7 ;", 1);
        String[] names = {"fail 0", "must 0", "mark", "look 5", "keen"};
        for (String name : names) {
            String ahead = "sort 9 8 7;" + name;
            b.taken(ahead + " 5 ;", 2);
            b.faulty(ahead + " ;", 2, ahead.length() + 1);
            b.faulty(ahead + " 5 6 ;", 2, ahead.length() + 3);
            b.faulty(ahead + " 5", 2, ahead.length() + 2);
        }
        b.faulty("sort 9 8 ;", 2, 9);
        b.faulty("sort 9 8 7 6 ;", 2, 11);
        b.says(Bounds.TERMS, "sort: MANY, HAS, WOULD.");
        LemonMarket x = b.told("sort 9 8 7;sort 6 5 4;");
        for (int i = 0; i < 6; i++) b.due("of(" + i / 3 + ", " + i % 3 + ")", x.of(i / 3, i % 3), 9 - i);
        b.says(Bounds.TERMS, "look: LOOK, PAY.");
        b.due("LOOK", b.told("look 5 7;").rule(1), 5);
        b.due("PAY", b.told("look 5 7;").rule(2), 7);
    }

    /** What the seller pays the buyer has: who comes and what is thought change, what all gain does not. */
    private static void warrant(Bounds b) {
        b.says(Bounds.TERMS, "1 WARRANT: the seller pays w, if it FAILS.");
        LemonMarket x = b.told(MARKET);
        int[] prices = {39, 40, 49, 50, 69, 70};
        int[] come = {0, 1, 1, 3, 3, 7};
        int[] gains = {-32000, 48000, 48000, 368000, 368000, 320000};
        int[][] thoughts = {{50, 1}, {50, 1}, {50, 1}, {125, 2}, {125, 2}, {430, 7}};
        for (int i = 0; i < prices.length; i++) at(b, x, 1, 20, prices[i], come[i], gains[i], thoughts[i]);
    }

    private static void at(Bounds b, LemonMarket x, int kind, int w, int p, int come, int gain, int[] thought) {
        String call = "(" + kind + ", " + w + ", " + p + ", ..)";
        b.due("comes" + call, x.comes(kind, w, p, 0), come);
        b.due("gain" + call, x.gain(kind, w, p), gain);
        b.due("thought" + call, x.thought(kind, w, p, 0), thought[0]);
        b.due("thought by" + call, x.thought(kind, w, p, 1), thought[1]);
    }

    private static void looked(Bounds b) {
        b.says(Bounds.TERMS, "it is sold, if a looker says that it is GOOD; he says of each so many of 8 right as LOOK tells.");
        LemonMarket x = b.told(MARKET);
        int[] sold = {2000, 12000, 3000};
        for (int s = 0; s < 3; s++) b.due("sold(2, 0, 99, " + s + ")", x.sold(2, 0, 99, s), sold[s]);
        at(b, x, 2, 0, 19, 0, -25600, new int[] {146, 3});
        at(b, x, 2, 0, 39, 1, -13600, new int[] {69, 2});
        at(b, x, 2, 0, 69, 3, 210400, new int[] {1018, 19});
    }

    /** Those that are given back are as if they had not been sold. */
    private static void back(Bounds b) {
        b.says(Bounds.TERMS, "3 BACK: of those that FAIL w of 10 are given back: seller and buyer have what they had.");
        LemonMarket x = b.told(MARKET);
        int[] sold = {4000, 12000, 4000};
        for (int s = 0; s < 3; s++) b.due("sold(3, 5, 99, " + s + ")", x.sold(3, 5, 99, s), sold[s]);
        at(b, x, 3, 5, 19, 0, -32000, new int[] {50, 1});
        at(b, x, 3, 5, 39, 1, 8000, new int[] {250, 7});
        at(b, x, 3, 5, 69, 3, 248000, new int[] {575, 11});
        at(b, x, 3, 5, 70, 7, 200000, new int[] {52, 1});
        b.due("lost(3, 5, 69)", x.lost(3, 5, 69), 120000);
    }

    private static void heap(Bounds b) {
        b.says(Bounds.TERMS, "all horses of all SORTS are one heap, sold all or none.");
        LemonMarket x = b.told(MARKET);
        for (int p = 0; p <= 99; p++) {
            boolean all = p >= 39;
            b.due("comes(4, 0, " + p + ", 1)", x.comes(4, 0, p, 1), all ? 35 : 0);
            b.due("comes(4, 0, " + p + ", 2)", x.comes(4, 0, p, 2), all ? 28000 : 0);
            b.due("gain(4, 0, " + p + ")", x.gain(4, 0, p), all ? 320000 : 0);
            b.due("lost(4, 0, " + p + ")", x.lost(4, 0, p), all ? 0 : 400000);
            for (int s = 0; s < 3; s++) b.due("sold(4, 0, " + p + ", " + s + ")", x.sold(4, 0, p, s), all ? 800 * x.of(s, 0) : 0);
        }
    }

    private static void comesAndSold(Bounds b) {
        b.says(Bounds.TERMS, "a SORT COMES whole:");
        LemonMarket x = b.told(MARKET);
        int[] prices = {19, 20, 39, 40, 69, 70};
        int[] whole = {0, 1, 1, 3, 3, 7};
        int[] horses = {2, 12, 12, 32, 32, 35};
        for (int i = 0; i < prices.length; i++) {
            b.due("comes(0, 0, " + prices[i] + ", 0)", x.comes(0, 0, prices[i], 0), whole[i]);
            b.due("comes(0, 0, " + prices[i] + ", 1)", x.comes(0, 0, prices[i], 1), horses[i]);
        }
        b.says(Bounds.TERMS, "SOLD of a SORT, in parts (800 for a horse):");
        for (int i = 0; i < prices.length; i++) {
            b.due("comes(0, 0, " + prices[i] + ", 2)", x.comes(0, 0, prices[i], 2), 800 * horses[i]);
            b.due("sold(0, 0, " + prices[i] + ", 0)", x.sold(0, 0, prices[i], 0), (whole[i] & 1) != 0 ? 8000 : 0);
            b.due("sold(0, 0, " + prices[i] + ", 1)", x.sold(0, 0, prices[i], 1), (whole[i] & 2) != 0 ? 16000 : 0);
            b.due("sold(0, 0, " + prices[i] + ", 2)", x.sold(0, 0, prices[i], 2), (whole[i] & 4) != 0 ? 4000 : 1600);
        }
    }

    private static void thoughtInTheMean(Bounds b) {
        b.says(Bounds.TERMS, "THOUGHT: WOULD of all that are SOLD, in the mean (by parts);");
        LemonMarket x = b.told(MARKET);
        at(b, x, 0, 0, 19, 0, -32000, new int[] {50, 1});
        at(b, x, 0, 0, 20, 1, 48000, new int[] {100, 3});
        at(b, x, 0, 0, 40, 3, 368000, new int[] {50, 1});
        at(b, x, 0, 0, 70, 7, 320000, new int[] {50, 1});
        // As many come of both: 6000 parts of the one that is GOOD, 2000 of the other.
        LemonMarket parts = b.told("sort 10 0 60;sort 10 0 20;look 6 0;");
        at(b, parts, 2, 0, 0, 3, 400000, new int[] {50, 1});
        at(b, parts, 0, 0, 0, 3, 640000, new int[] {40, 1});
    }

    private static void fall(Bounds b) {
        b.says(Bounds.TERMS, "FALL from p: while THOUGHT is below p,");
        LemonMarket x = b.told(MARKET);
        for (int p = 0; p <= 99; p++) {
            boolean rests = p <= 33 || p >= 40 && p <= 50;
            int end = rests ? p : p < 40 ? 33 : 50;
            b.due("fall(0, 0, " + p + ", 0)", x.fall(0, 0, p, 0), end);
            b.due("fall(0, 0, " + p + ", 1)", x.fall(0, 0, p, 1), rests ? 0 : 1);
        }
    }

    private static void gain(Bounds b) {
        b.says(Bounds.TERMS, "GAIN at p: parts SOLD times WOULD less HAS, summed over SORTS;");
        LemonMarket x = b.told(MARKET);
        int[] first = {0, 20, 40, 70, 100};
        int[] gains = {1600 * -20, 8000 * 10 + 1600 * -20, 8000 * 10 + 16000 * 20 + 1600 * -20, 8000 * 10 + 16000 * 20 + 4000 * -20};
        for (int i = 0; i < gains.length; i++)
            for (int p = first[i]; p < first[i + 1]; p++) b.due("gain(0, 0, " + p + ")", x.gain(0, 0, p), gains[i]);
    }

    private static void lost(Bounds b) {
        b.says(Bounds.TERMS, "800 for each horse less parts SOLD, times WOULD less HAS, summed.");
        LemonMarket x = b.told(MARKET);
        int[] prices = {0, 19, 20, 39, 40, 99};
        int[] lost = {400000, 400000, 320000, 320000, 0, 0};
        for (int i = 0; i < prices.length; i++) b.due("lost(0, 0, " + prices[i] + ")", x.lost(0, 0, prices[i]), lost[i]);
        b.due("lost(2, 0, 39)", x.lost(2, 0, 39), 6000 * 10 + 16000 * 20);
        b.due("lost(2, 0, 69)", x.lost(2, 0, 69), 6000 * 10 + 4000 * 20);
        b.due("lost(1, 20, 49)", x.lost(1, 20, 49), 16000 * 20);
    }

    private static void best(Bounds b) {
        b.says(Bounds.TERMS, "BEST of an OFFER:");
        LemonMarket x = b.told(MARKET);
        int[] ws = {0, 20, 0, 5, 0};
        int[] prices = {40, 50, 40, 40, 39};
        int[] gains = {368000, 368000, 210400, 248000, 320000};
        for (int kind = 0; kind <= 4; kind++) {
            b.due("best(" + kind + ", " + ws[kind] + ", 0)", x.best(kind, ws[kind], 0), prices[kind]);
            b.due("best(" + kind + ", " + ws[kind] + ", 1)", x.best(kind, ws[kind], 1), gains[kind]);
        }
    }

    private static void lawsAre(Bounds b, LemonMarket x, int bits, int outcome, int price) {
        b.due("laws(" + bits + ", 20, 0)", x.laws(bits, 20, 0), outcome);
        b.due("laws(" + bits + ", 20, 1)", x.laws(bits, 20, 1), price);
    }

    private static void laws(Bounds b) {
        LemonMarket x = b.told(MARKET);
        b.says(Bounds.TERMS, "LAWS (bits): 1 WARRANT of w, 2 LOOKED,");
        lawsAre(b, x, 0, 368000, 40);
        lawsAre(b, x, 1, 368000, 50);
        lawsAre(b, x, 2, 210400, 40);
        b.says(Bounds.TERMS, ", 8 HEAP;");
        lawsAre(b, x, 8, 320000, 39);
    }

    /** The first SORT is bought out, for 800 times 10 times 20. */
    private static void outcomes(Bounds b) {
        b.says(Bounds.TERMS, "OUTCOME:");
        LemonMarket x = b.told(MARKET);
        lawsAre(b, x, 4, 288000 - 160000, 40);
        lawsAre(b, x, 5, 288000 - 160000, 50);
        lawsAre(b, x, 6, 198400 - 160000, 40);
        lawsAre(b, x, 12, 240000 - 160000, 46);
        b.due("bestLaws(20, 0)", x.bestLaws(20, 0), 0);
        b.due("bestLaws(20, 1)", x.bestLaws(20, 1), 368000);
    }

    private static void learn(Bounds b) {
        b.says(Bounds.TERMS, "LEARN: in a round p becomes:");
        LemonMarket x = b.told(MARKET);
        int[] prices = {99, 74, 62, 56, 53, 51, 50, 50};
        for (int n = 0; n < prices.length; n++) b.due("learn(99, " + n + ", 0)", x.learn(99, n, 0), prices[n]);
        b.due("learn(99, 0, 1)", x.learn(99, 0, 1), 6);
        b.due("learn of KEEN 1", b.told(MARKET + "keen 1;").learn(99, 1, 0), 94);
        b.due("learn of KEEN 10", b.told(MARKET + "keen 10;").learn(99, 1, 0), 50);
    }

    private static void edge(Bounds b) {
        b.says(Bounds.TERMS, "EDGE of a SORT:");
        LemonMarket x = b.told(MARKET);
        // The first may be worth nothing: at 40 the others make up for it.
        int[] edges = {0, 44, Bounds.NONE};
        for (int s = 0; s < 3; s++) b.due("edge(" + s + ")", x.edge(s), edges[s]);
        b.due("edge(0) without the second", b.told("sort 10 20 30;sort 5 70 50;must 1 2;").edge(0), 14);
    }

    private static void sharp(Bounds b) {
        b.says(Bounds.TERMS, "SHARP: the least LOOK by which a price RESTS (LOOKED)");
        b.due("sharp()", b.told(MARKET).sharp(), Bounds.NONE);
        b.due("sharp(), one GOOD", b.told(MARKET + "mark 60;").sharp(), 4);
        b.due("sharp(), PAY 2", b.told("sort 10 0 10;sort 10 60 80;look 4 2;").sharp(), 7);
        b.due("sharp(), PAY 0", b.told("sort 10 0 10;sort 10 60 80;look 8 0;").sharp(), 6);
    }

    private static void ofASort(Bounds b) {
        b.says(8, "Of a SORT: 0 MANY, 1 HAS, 2 WOULD, 3 FAIL, 4 MUST,");
        LemonMarket x = b.told(MARKET);
        int[][] sorts = {{10, 20, 30, 10, 0, 0}, {20, 40, 60, 5, 0, 1}, {5, 70, 50, 0, 2, 1}};
        for (int s = 0; s < 3; s++)
            for (int what = 0; what < 6; what++) b.due("of(" + s + ", " + what + ")", x.of(s, what), sorts[s][what]);
    }

    private static void fallAsked(Bounds b) {
        b.says(14, "FALL: the price at which it ends (what 0; NONE), how many steps (1);");
        LemonMarket x = b.told(MARKET);
        b.due("fall(0, 0, 39, 0)", x.fall(0, 0, 39, 0), 33);
        b.due("fall(0, 0, 39, 1)", x.fall(0, 0, 39, 1), 1);
        b.due("fall(4, 0, 38, 0)", x.fall(4, 0, 38, 0), Bounds.NONE);
        b.due("fall(4, 0, 38, 1)", x.fall(4, 0, 38, 1), 0);
        LemonMarket none = b.told("sort 5 60 50;");
        b.due("fall(0, 0, 99, 0)", none.fall(0, 0, 99, 0), Bounds.NONE);
        b.due("fall(0, 0, 99, 1)", none.fall(0, 0, 99, 1), 1);
    }
}
