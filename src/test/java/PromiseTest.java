/** Each promise of the document by its number: ordinary inputs, the edges that it names, wrong inputs. */
public final class PromiseTest {
    private static final int BAD = -1, FULL = -3, NONE = -4, FAR_BAD = -1000000000, FAR_NONE = -1000000004;
    private static final int LOW = Integer.MIN_VALUE, HIGH = Integer.MAX_VALUE;

    private static int wrong = 0;
    private static int checks = 0;

    public static void main(String[] args) {
        promise1();
        promises2And3();
        promise4Lines();
        promise4Tokens();
        promise4Faults();
        promise4FaultOrder();
        promise5();
        promise6();
        promise7();
        promise8();
        promise9();
        promise10();
        promise11();
        promise12();
        promise13();
        promise14();
        promise15();
        promise16();
        promise17();
        promise18();
        promise19();
        promise20();
        promise21();
        promise22();
        promise23();
        promise24();
        promise25();
        promise26();
        promise27();
        promise28();
        promise29();
        promise30();
        promise31();
        promise32();
        wrongOffers();
        System.out.println("PromiseTest: " + checks + " checks, " + wrong + " wrong");
        if (wrong != 0) System.exit(1);
    }

    private static void due(int promise, String call, int got, int want) {
        checks++;
        if (got != want) {
            wrong++;
            System.out.println("promise " + promise + ": " + call + " answered " + got + ", due is " + want);
        }
    }

    private static void lay(LemonMarket x, String text) {
        for (int i = 0; i < text.length(); i += 8) {
            long v = 0;
            for (int j = i; j < i + 8; j++) v = v << 8 | (j < text.length() ? text.charAt(j) & 255 : 0);
            x.feed(v);
        }
        x.end(text.length());
    }

    private static LemonMarket told(String text) {
        LemonMarket x = new LemonMarket();
        lay(x, text);
        int lines = x.text();
        if (lines < 0) due(4, "text of '" + text + "'", lines, 0);
        return x;
    }

    private static void faulty(String text, int fault, int place) {
        LemonMarket x = new LemonMarket();
        lay(x, text);
        due(4, "text of '" + text + "'", x.text(), -10 - place);
        due(5, "fault of '" + text + "'", x.fault(), fault);
        due(4, "TAPE behind '" + text + "'", x.count(4), 0);
    }

    private static void taken(String text, int lines) {
        LemonMarket x = new LemonMarket();
        lay(x, text);
        due(4, "text of '" + text + "'", x.text(), lines);
        due(5, "fault of '" + text + "'", x.fault(), 0);
    }

    private static void promise1() {
        LemonMarket x = new LemonMarket();
        int[] rules = {50, 6, 1, 5};
        for (int i = 0; i < 4; i++) due(1, "rule(" + i + ")", x.rule(i), rules[i]);
        int[] counts = {0, 0, 0, 0, 0, NONE};
        for (int i = 0; i < 6; i++) due(1, "count(" + i + ")", x.count(i), counts[i]);
        due(1, "fault()", x.fault(), 0);
        due(1, "torn()", x.torn(), 0);
        for (int k = 0; k < 4; k++) due(1, "lay(" + k + ", 0, 0)", x.lay(k, 0, 0), -11);
    }

    private static void promises2And3() {
        LemonMarket x = new LemonMarket();
        for (int i = 1; i <= 30; i++) due(2, "feed", x.feed(0x2020202020202020L), 8 * i);
        due(2, "feed beyond 240", x.feed(0x2020202020202020L), FULL);
        due(2, "TAPE behind FULL", x.count(4), 240);
        due(3, "end(241)", x.end(241), BAD);
        due(3, "end(-1)", x.end(-1), BAD);
        due(3, "end(LOW)", x.end(LOW), BAD);
        due(3, "end(233)", x.end(233), 240);
        due(2, "feed on 233", x.feed(0), FULL);
        due(3, "end(234): it has 233", x.end(234), BAD);
        due(3, "end(233) again", x.end(233), 233);
        due(3, "end(232)", x.end(232), 233);
        due(2, "feed on 232", x.feed(0x2020202020202020L), 240);
        due(4, "240 blanks", x.text(), 0);
        due(3, "end(0) on nothing", x.end(0), 0);
        due(3, "end(1) on nothing", x.end(1), BAD);
        // The highest byte comes first, and bytes behind the end come anew.
        x.feed(0x6b65656e20373b7aL);
        due(3, "end(7)", x.end(7), 8);
        due(4, "keen 7;", x.text(), 1);
        due(4, "rule(3)", x.rule(3), 7);
        x.feed(0x8000000000000000L);
        due(4, "a byte of 128", x.text(), -10);
        due(5, "its FAULT", x.fault(), 1);
    }

    private static void promise4Lines() {
        LemonMarket x = told("sort 50 99 0; sort 1 0 99; fail 1 10; must 0 50; fail 0 0; must 1 0; mark 99; look 8 20; keen 10;");
        int[][] of = {{50, 99, 0, 0, 50, 0}, {1, 0, 99, 10, 0, 1}};
        for (int s = 0; s < 2; s++) for (int i = 0; i < 6; i++) due(4, "of(" + s + ", " + i + ")", x.of(s, i), of[s][i]);
        int[] rules = {99, 8, 20, 10};
        for (int i = 0; i < 4; i++) due(4, "rule(" + i + ")", x.rule(i), rules[i]);
        // A text that is not taken leaves what was told, one that is taken leaves nothing of it.
        lay(x, "sort 7 7 7;mark 3;look 4 0;keen 1;x");
        due(4, "a FAULT at the end", x.text(), -44);
        due(4, "SORTS stay", x.count(0), 2);
        for (int i = 0; i < 4; i++) due(4, "rule(" + i + ") stays", x.rule(i), rules[i]);
        lay(x, "sort 7 8 9;");
        due(4, "a text of one line", x.text(), 1);
        due(4, "SORTS", x.count(0), 1);
        due(4, "FAIL starts anew", x.of(0, 3), 0);
        due(4, "MUST starts anew", x.of(0, 4), 0);
        int[] first = {50, 6, 1, 5};
        for (int i = 0; i < 4; i++) due(4, "rule(" + i + ") anew", x.rule(i), first[i]);
        due(4, "an empty text", x.text(), 0);
        due(4, "no SORTS", x.count(0), 0);
        // What may be told once may be told again in the next text.
        lay(x, "mark 7;look 5 3;keen 2;");
        due(4, "rules", x.text(), 3);
        lay(x, "mark 0;look 4 0;keen 1;");
        due(4, "rules in the next text", x.text(), 3);
        int[] least = {0, 4, 0, 1};
        for (int i = 0; i < 4; i++) due(4, "rule(" + i + ") least", x.rule(i), least[i]);
    }

    private static void promise4Tokens() {
        taken("", 0);
        taken("   ", 0);
        taken("sort1 2 3;", 1);
        taken("  sort  01   02 03  ;keen05;", 2);
        taken("mark 00;", 1);
        faulty("so rt 1 2 3;", 1, 0);
        faulty("sort 123 1;", 1, 5);
        faulty("sort 1 2 0003;", 1, 9);
        faulty("sorts 1 2 3;", 1, 0);
        faulty("xsort 1 2 3;", 1, 0);
        faulty("sor 1 2 3;", 1, 0);
        faulty("sortmark", 1, 0);
        faulty("Sort 1 2 3;", 1, 0);
        faulty("sort\t1 2 3;", 1, 4);
        faulty(" `", 1, 1);
        faulty("{", 1, 0);
        faulty("/", 1, 0);
        faulty(":", 1, 0);
        faulty("mark 5;" + (char) 0, 1, 7);
        faulty("mark 5;" + (char) 255, 1, 7);
        faulty("mark -5;", 1, 5);
    }

    private static void promise4Faults() {
        String eight = "sort 1 1 1;".repeat(8);
        faulty("  12 ;", 2, 2);
        faulty(";", 2, 0);
        faulty("sort ;", 2, 5);
        faulty("sort sort", 2, 5);
        faulty("sort 1 2 3 4;", 2, 11);
        faulty("sort 1 2 3 mark", 2, 11);
        faulty("sort 1 2 3", 2, 10);
        faulty("sort 1 2 3   ", 2, 13);
        faulty("sort 1 2", 2, 8);
        faulty("mark;", 2, 4);
        faulty("mark 1;;", 2, 7);
        faulty("look 5;", 2, 6);
        faulty("keen 5 5;", 2, 7);
        faulty("keen", 2, 4);
        faulty("sort 0 1 1;", 3, 5);
        faulty("sort 51 1 1;", 3, 5);
        taken("sort 50 99 99;", 1);
        faulty("fail 0 1;", 3, 5);
        faulty("must 0 1;", 3, 5);
        faulty("sort 3 1 1;fail 1 1;sort 1 1 1;", 3, 16);
        faulty("sort 3 1 1;fail 0 11;", 3, 18);
        faulty("sort 3 1 1;must 1 0;", 3, 16);
        faulty("sort 3 1 1;must 0 4;", 3, 18);
        taken("sort 3 1 1;must 0 3;", 2);
        faulty("look 3 1;", 3, 5);
        faulty("look 9 1;", 3, 5);
        faulty("look 8 21;", 3, 7);
        faulty("keen 0;", 3, 5);
        faulty("keen 11;", 3, 5);
        faulty("mark 1;keen 1;mark 1;", 4, 14);
        faulty("look 4 1;mark 1;look 4 1;", 4, 16);
        faulty("keen 1;keen", 4, 7);
        faulty("sort 3 1 1;sort 3 1 1;fail 0 1;fail 1 1;fail 0 1;", 4, 45);
        faulty("sort 3 1 1;must 0 1;fail 0 1;must 0 1;", 4, 34);
        taken("sort 3 1 1;sort 3 1 1;fail 0 1;must 0 1;fail 1 1;must 1 1;", 6);
        taken(eight, 8);
        taken(eight + "fail 7 3;must 7 1;", 10);
        faulty(eight + "fail 8 3;", 3, 93);
        faulty(eight + " sort", 5, 89);
    }

    /** A TOKEN is read only when the one before has been taken: the FAULT ahead is the one that is told. */
    private static void promise4FaultOrder() {
        String eight = "sort 1 1 1;".repeat(8);
        faulty("sort 0 )", 3, 5);
        faulty("sort 1 2 horse", 1, 9);
        faulty("sort 100;", 1, 5);
        faulty("5)", 2, 0);
        faulty("5 100", 2, 0);
        faulty("mark 1;mark)", 4, 7);
        faulty(eight + "sort 100", 5, 88);
        faulty("sort 3 1 1;fail 0 1;fail 0)", 4, 25);
        faulty("sort 3 1 1;must 0 1;must 0 99;", 4, 25);
        faulty("sort 3 1 1;must 0 1;must 1 9;", 3, 25);
        faulty("mark 5 ) mark", 1, 7);
    }

    private static void promise5() {
        LemonMarket x = new LemonMarket();
        due(5, "fault() of none", x.fault(), 0);
        lay(x, "x");
        x.text();
        due(5, "fault()", x.fault(), 1);
        due(5, "fault() again", x.fault(), 1);
        x.sort(1, 1, 1);
        due(5, "fault() behind another call", x.fault(), 1);
        x.text();
        due(5, "fault() of a text that is taken", x.fault(), 0);
    }

    private static void promise6() {
        LemonMarket x = new LemonMarket();
        int[][] bad = {{0, 1, 1}, {51, 1, 1}, {1, -1, 1}, {1, 100, 1}, {1, 1, -1}, {1, 1, 100}, {LOW, 0, 0}, {HIGH, 0, 0}};
        for (int[] b : bad) due(6, "sort of a wrong number", x.sort(b[0], b[1], b[2]), BAD);
        due(6, "count(0)", x.count(0), 0);
        due(6, "sort(50, 0, 99)", x.sort(50, 0, 99), 0);
        due(6, "sort(1, 99, 0)", x.sort(1, 99, 0), 1);
        int[][] of = {{50, 0, 99, 0, 0}, {1, 99, 0, 0, 0}};
        for (int s = 0; s < 2; s++) for (int i = 0; i < 5; i++) due(6, "of(" + s + ", " + i + ")", x.of(s, i), of[s][i]);
        for (int s = 2; s < 8; s++) due(6, "sort", x.sort(1, 1, 1), s);
        due(6, "the 9th, BAD", x.sort(0, 1, 1), BAD);
        due(6, "the 9th", x.sort(1, 1, 1), FULL);
        due(6, "count(0)", x.count(0), 8);
    }

    private static void promise7() {
        LemonMarket x = new LemonMarket();
        due(7, "set without SORTS", x.set(0, 1, 1), BAD);
        x.sort(10, 20, 30);
        x.sort(40, 50, 60);
        int[][] fits = {{0, 50, 10}, {0, 1, 50}, {1, 99, 20}, {1, 0, 99}, {2, 99, 30}, {2, 0, 99}, {3, 10, 0}, {3, 0, 10}, {4, 1, 0}, {4, 0, 1}};
        for (int[] f : fits) due(7, "set(0, " + f[0] + ", " + f[1] + ")", x.set(0, f[0], f[1]), f[2]);
        int[][] bad = {{0, 0}, {0, 51}, {1, -1}, {1, 100}, {2, -1}, {2, 100}, {3, -1}, {3, 11}, {4, -1}, {4, 2}, {5, 1}, {-1, 1}, {LOW, 1}, {HIGH, 1}};
        for (int[] b : bad) due(7, "set(0, " + b[0] + ", " + b[1] + ")", x.set(0, b[0], b[1]), BAD);
        int[] now = {1, 0, 0, 0, 0};
        for (int i = 0; i < 5; i++) due(7, "of(0, " + i + ")", x.of(0, i), now[i]);
        due(7, "MUST of all", x.set(1, 4, 40), 0);
        due(7, "MUST above MANY", x.set(1, 4, 41), BAD);
        due(7, "MANY below MUST", x.set(1, 0, 39), BAD);
        due(7, "MANY as it is", x.set(1, 0, 40), 40);
        due(7, "MUST less", x.set(1, 4, 5), 40);
        due(7, "MANY down to MUST", x.set(1, 0, 5), 40);
        due(7, "set(2, ..)", x.set(2, 0, 1), BAD);
        due(7, "set(-1, ..)", x.set(-1, 0, 1), BAD);
        due(7, "set(HIGH, ..)", x.set(HIGH, 0, 1), BAD);
        due(7, "the other SORT", x.of(1, 1), 50);
    }

    private static void promise8() {
        LemonMarket x = told("sort 1 2 54;sort 3 4 55;fail 1 6;must 1 2;mark 55;");
        int[][] of = {{1, 2, 54, 0, 0, 0}, {3, 4, 55, 6, 2, 1}};
        for (int s = 0; s < 2; s++) for (int i = 0; i < 6; i++) due(8, "of(" + s + ", " + i + ")", x.of(s, i), of[s][i]);
        int[][] bad = {{-1, 0}, {2, 0}, {0, -1}, {0, 6}, {HIGH, 0}, {0, HIGH}, {LOW, LOW}};
        for (int[] b : bad) due(8, "of(" + b[0] + ", " + b[1] + ")", x.of(b[0], b[1]), BAD);
    }

    private static void promise9() {
        LemonMarket x = told("mark 12;look 5 13;keen 3;");
        int[] rules = {12, 5, 13, 3};
        for (int i = 0; i < 4; i++) due(9, "rule(" + i + ")", x.rule(i), rules[i]);
        for (int i : new int[] {-1, 4, LOW, HIGH}) due(9, "rule(" + i + ")", x.rule(i), BAD);
    }

    // Three SORTS, of which the last MUST sell 2 of 5: most promises below are asked of it.
    private static LemonMarket three() {
        return told("sort 10 20 30;sort 20 40 60;sort 5 70 50;fail 0 10;fail 1 5;must 2 2;look 6 1;");
    }

    private static void promise10() {
        LemonMarket x = three();
        int[][] plain = {{19, 0, 2}, {20, 1, 12}, {39, 1, 12}, {40, 3, 32}, {69, 3, 32}, {70, 7, 35}, {0, 0, 2}, {99, 7, 35}};
        for (int[] c : plain) {
            due(10, "comes(0, 0, " + c[0] + ", 0)", x.comes(0, 0, c[0], 0), c[1]);
            due(10, "comes(0, 50, " + c[0] + ", 1)", x.comes(0, 50, c[0], 1), c[2]);
            due(10, "comes(0, 99, " + c[0] + ", 2)", x.comes(0, 99, c[0], 2), 800 * c[2]);
            due(10, "comes(2, 7, " + c[0] + ", 0)", x.comes(2, 7, c[0], 0), c[1]);
            due(10, "comes(2, 7, " + c[0] + ", 1)", x.comes(2, 7, c[0], 1), c[2]);
        }
        // By a WARRANT of 11 the first asks 31, the second 45.5, the third 70.
        int[][] warrant = {{30, 0}, {31, 1}, {45, 1}, {46, 3}, {69, 3}, {70, 7}};
        for (int[] c : warrant) due(10, "comes(1, 11, " + c[0] + ", 0)", x.comes(1, 11, c[0], 0), c[1]);
        // By BACK of 10 all of the first are given back: it comes at every price, and none of it is SOLD.
        due(10, "comes(3, 10, 0, 0)", x.comes(3, 10, 0, 0), 1);
        due(10, "comes(3, 10, 0, 1)", x.comes(3, 10, 0, 1), 12);
        due(10, "comes(3, 10, 0, 2)", x.comes(3, 10, 0, 2), 1600);
        due(10, "comes(3, 9, 0, 0)", x.comes(3, 9, 0, 0), 0);
        // HAS in the mean: 200 and 800 and 350 by 35, 38 and four sevenths.
        due(10, "comes(4, 0, 38, 0)", x.comes(4, 0, 38, 0), 0);
        due(10, "comes(4, 0, 38, 1)", x.comes(4, 0, 38, 1), 0);
        due(10, "comes(4, 0, 38, 2)", x.comes(4, 0, 38, 2), 0);
        due(10, "comes(4, 0, 39, 0)", x.comes(4, 0, 39, 0), 7);
        due(10, "comes(4, 0, 39, 1)", x.comes(4, 0, 39, 1), 35);
        due(10, "comes(4, 0, 39, 2)", x.comes(4, 0, 39, 2), 28000);
        due(10, "comes what -1", x.comes(0, 0, 0, -1), BAD);
        due(10, "comes what 3", x.comes(0, 0, 0, 3), BAD);
        // All MUST, and yet by its price the SORT does not come whole.
        x.set(2, 4, 5);
        due(10, "all MUST: bits", x.comes(0, 0, 19, 0), 0);
        due(10, "all MUST: horses", x.comes(0, 0, 19, 1), 5);
        x.set(1, 1, 43);
        x.set(1, 4, 0);
        due(10, "a mean that is whole, below", x.comes(4, 0, 40, 0), 0);
        x.set(2, 1, 68);
        due(10, "a mean that is whole", x.comes(4, 0, 40, 0), 7);
    }

    private static void promise11() {
        LemonMarket x = three();
        int[] plain = {8000, 0, 1600};
        int[] warrant = {0, 0, 1600};
        int[] looked = {2000, 12000, 1200};
        int[] back = {5600, 13600, 1600};
        int[] heap = {8000, 16000, 4000};
        for (int s = 0; s < 3; s++) {
            due(11, "sold(0, 0, 39, " + s + ")", x.sold(0, 0, 39, s), plain[s]);
            due(11, "sold(1, 99, 69, " + s + ")", x.sold(1, 99, 69, s), warrant[s]);
            due(11, "sold(2, 0, 40, " + s + ")", x.sold(2, 0, 40, s), looked[s]);
            due(11, "sold(3, 3, 40, " + s + ")", x.sold(3, 3, 40, s), back[s]);
            due(11, "sold(4, 0, 39, " + s + ")", x.sold(4, 0, 39, s), heap[s]);
            due(11, "sold(4, 0, 38, " + s + ")", x.sold(4, 0, 38, s), 0);
        }
        due(11, "sold(3, 10, 40, 0)", x.sold(3, 10, 40, 0), 0);
        for (int s : new int[] {-1, 3, LOW, HIGH}) due(11, "sold of SORT " + s, x.sold(0, 0, 0, s), BAD);
    }

    private static void thoughtIs(LemonMarket x, int kind, int w, int p, int numerator, int denominator) {
        String call = "thought(" + kind + ", " + w + ", " + p + ", ";
        due(12, call + "0)", x.thought(kind, w, p, 0), numerator);
        due(12, call + "1)", x.thought(kind, w, p, 1), denominator);
    }

    private static void promise12() {
        LemonMarket x = three();
        thoughtIs(x, 0, 0, 0, 50, 1);
        thoughtIs(x, 0, 0, 20, 100, 3);
        thoughtIs(x, 0, 0, 40, 50, 1);
        // 30 and 7 for each of the first, 60 and 3.5 of the second, 50 of those that MUST: 1740 by 32.
        thoughtIs(x, 1, 7, 44, 435, 8);
        // Parts 2000 at 30, 12000 at 60, 1200 at 50, less 800 for each of 32: 814400 by 15200.
        thoughtIs(x, 2, 0, 40, 1018, 19);
        // Parts 5600 at 30, 13600 at 60, 1600 at 50: 1064000 by 20800.
        thoughtIs(x, 3, 3, 40, 665, 13);
        thoughtIs(x, 4, 0, 39, 50, 1);
        thoughtIs(x, 4, 0, 38, FAR_NONE, FAR_NONE);
        due(12, "thought what -1", x.thought(0, 0, 0, -1), FAR_BAD);
        due(12, "thought what 2", x.thought(0, 0, 0, 2), FAR_BAD);
        LemonMarket below = told("sort 3 5 1;look 5 20;");
        thoughtIs(below, 2, 0, 4, FAR_NONE, FAR_NONE);
        thoughtIs(below, 2, 0, 5, -157, 3);
        thoughtIs(told("sort 3 5 0;"), 0, 0, 5, 0, 1);
        // Nothing is SOLD though all come: a looker who never errs, horses that all come back.
        thoughtIs(told("sort 3 5 1;look 8 1;"), 2, 0, 99, FAR_NONE, FAR_NONE);
        thoughtIs(told("sort 3 5 1;fail 0 10;"), 3, 10, 99, FAR_NONE, FAR_NONE);
        thoughtIs(told("sort 2 0 1;look 4 1;"), 2, 0, 0, -1, 1);
    }

    private static void restsAre(LemonMarket x, int kind, int w, int... due) {
        for (int i = 0; i < 4; i++) due(13, "rests(" + kind + ", " + w + ", " + i + ")", x.rests(kind, w, i), due[i]);
    }

    private static void promise13() {
        LemonMarket x = three();
        // 0 to 19 at 50, 20 to 33 at 33 and a third, 40 to 50 at 50.
        restsAre(x, 0, 0, 45, 0, 50, 40);
        // 39 to 50.
        restsAre(x, 4, 0, 12, 39, 50, 39);
        LemonMarket none = told("sort 5 50 40;");
        for (int kind = 0; kind < 5; kind++) restsAre(none, kind, 0, 0, NONE, NONE, NONE);
        restsAre(told("sort 5 40 40;"), 0, 0, 1, 40, 40, 40);
        restsAre(told("sort 5 99 99;"), 0, 0, 1, 99, 99, 99);
        due(13, "rests what -1", x.rests(0, 0, -1), BAD);
        due(13, "rests what 4", x.rests(0, 0, 4), BAD);
    }

    private static void promise14() {
        LemonMarket x = told("sort 10 10 15;sort 10 30 40;sort 10 60 75;");
        int[] path = {99, 43, 27, 15, NONE};
        for (int i = 0; i < path.length; i++) due(14, "fall(0, 0, 99, 10 + " + i + ")", x.fall(0, 0, 99, 10 + i), path[i]);
        due(14, "fall(0, 0, 99, 0)", x.fall(0, 0, 99, 0), 15);
        due(14, "fall(0, 0, 99, 1)", x.fall(0, 0, 99, 1), 3);
        due(14, "fall(0, 0, 99, 99)", x.fall(0, 0, 99, 99), NONE);
        due(14, "fall from a price that RESTS", x.fall(0, 0, 12, 0), 12);
        due(14, "its steps", x.fall(0, 0, 12, 1), 0);
        due(14, "fall from where nothing is SOLD", x.fall(0, 0, 9, 0), NONE);
        due(14, "its steps", x.fall(0, 0, 9, 1), 0);
        for (int what : new int[] {-1, 2, 9, 100, LOW, HIGH}) due(14, "fall what " + what, x.fall(0, 0, 9, what), BAD);
        LemonMarket stops = told("sort 10 50 20;");
        due(14, "fall to where nothing is SOLD", stops.fall(0, 0, 60, 0), NONE);
        due(14, "its steps", stops.fall(0, 0, 60, 1), 1);
        due(14, "its price", stops.fall(0, 0, 60, 11), 20);
        LemonMarket below = told("sort 5 0 1;look 4 20;");
        due(14, "fall below 0", below.fall(2, 0, 60, 0), NONE);
        due(14, "its steps", below.fall(2, 0, 60, 1), 1);
        due(14, "its price", below.fall(2, 0, 60, 11), 0);
        due(14, "fall from 0", below.fall(2, 0, 0, 0), NONE);
        due(14, "its steps", below.fall(2, 0, 0, 1), 0);
        due(14, "its price", below.fall(2, 0, 0, 10), 0);
        LemonMarket nil = told("sort 5 0 0;");
        due(14, "fall to 0, which RESTS", nil.fall(0, 0, 60, 0), 0);
        due(14, "its steps", nil.fall(0, 0, 60, 1), 1);
    }

    private static void promise15() {
        LemonMarket x = three();
        due(15, "gain(0, 0, 0)", x.gain(0, 0, 0), -32000);
        due(15, "gain(0, 0, 40)", x.gain(0, 0, 40), 80000 + 320000 - 32000);
        due(15, "gain(1, 50, 69)", x.gain(1, 50, 69), 320000 - 32000);
        due(15, "gain(2, 0, 40)", x.gain(2, 0, 40), 20000 + 240000 - 24000 - 25600);
        due(15, "gain(3, 3, 40)", x.gain(3, 3, 40), 56000 + 272000 - 32000);
        due(15, "gain(4, 0, 39)", x.gain(4, 0, 39), 80000 + 320000 - 80000);
        due(15, "gain(4, 0, 38)", x.gain(4, 0, 38), 0);
    }

    private static void promise16() {
        LemonMarket x = three();
        due(16, "lost(0, 0, 0)", x.lost(0, 0, 0), 400000);
        due(16, "lost(0, 0, 20)", x.lost(0, 0, 20), 320000);
        due(16, "lost(0, 0, 40)", x.lost(0, 0, 40), 0);
        due(16, "lost(2, 0, 40)", x.lost(2, 0, 40), 60000 + 80000);
        due(16, "lost(3, 3, 40)", x.lost(3, 3, 40), 24000 + 48000);
        due(16, "lost(4, 0, 38)", x.lost(4, 0, 38), 400000);
        x.set(1, 4, 5);
        due(16, "lost, less those that MUST", x.lost(0, 0, 20), 240000);
    }

    private static void promise17() {
        LemonMarket x = three();
        due(17, "best(0, 0, 0)", x.best(0, 0, 0), 40);
        due(17, "best(0, 0, 1)", x.best(0, 0, 1), 368000);
        due(17, "best(4, 0, 0)", x.best(4, 0, 0), 39);
        due(17, "best(4, 0, 1)", x.best(4, 0, 1), 320000);
        LemonMarket below = told("sort 5 40 20;must 0 1;");
        due(17, "best of a GAIN below 0", below.best(0, 0, 1), -16000);
        due(17, "best: the least of several", below.best(0, 0, 0), 0);
        LemonMarket none = told("sort 5 50 40;");
        due(17, "best of none", none.best(0, 0, 0), FAR_NONE);
        due(17, "best of none", none.best(0, 0, 1), FAR_NONE);
        due(17, "best what -1", x.best(0, 0, -1), FAR_BAD);
        due(17, "best what 2", x.best(0, 0, 2), FAR_BAD);
    }

    private static void promise18() {
        due(18, "all()", three().all(), 400000);
        due(18, "all() of none", new LemonMarket().all(), 0);
        due(18, "all() of one that is worth the same", told("sort 5 50 50;sort 5 51 50;").all(), 0);
        due(18, "all() at most", told("sort 50 0 99;".repeat(8)).all(), 31680000);
    }

    private static void promise19() {
        LemonMarket x = told("sort 10 10 15;sort 10 30 40;sort 10 60 75;fail 0 8;fail 1 3;");
        due(19, "part(2, 0)", x.part(2, 0), NONE);
        due(19, "part(3, 0)", x.part(3, 0), 63);
        due(19, "part(3, 1)", x.part(3, 1), 60);
        due(19, "part(8, 0)", x.part(8, 0), 46);
        for (int f : new int[] {-1, 10, LOW, HIGH}) due(19, "part(" + f + ", 0)", x.part(f, 0), BAD);
        due(19, "part what -1", x.part(0, -1), BAD);
        due(19, "part what 2", x.part(0, 2), BAD);
        due(19, "part without SORTS", new LemonMarket().part(9, 0), NONE);
        LemonMarket two = told("sort 1 10 90;sort 1 20 90;fail 0 10;fail 1 1;");
        due(19, "no SORT FAILS so little", two.part(0, 0), NONE);
        // By 12 the first asks 22, the other 21.2: both come at 22. By 13 they ask 23 and 21.3.
        due(19, "part(1, 0)", two.part(1, 0), 13);
        due(19, "part(1, 1)", two.part(1, 1), 22);
        due(19, "none of FAIL 10 is left out by w 0", told("sort 1 10 90;").part(0, 0), 0);
        due(19, "its price", told("sort 1 10 90;").part(0, 1), 10);
        // At 60 the second asks 16, the first 50 and a tenth of w; 5 of the third MUST, at 24 and nine tenths of w.
        LemonMarket last = told("sort 6 50 6;sort 1 16 62;sort 6 95 24;fail 0 1;fail 2 9;must 2 5;");
        due(19, "w is 99", last.part(3, 0), 99);
        due(19, "its price", last.part(3, 1), 60);
        due(19, "w would be 100", told("sort 4 89 27;sort 8 85 65;fail 0 1;fail 1 7;must 1 7;").part(4, 0), NONE);
        due(19, "the price would be 100", told("sort 4 86 99;sort 1 97 67;sort 1 98 24;fail 0 7;fail 1 2;fail 2 10;").part(7, 0), NONE);
    }

    private static void promise20() {
        due(20, "sharp() without SORTS", new LemonMarket().sharp(), NONE);
        due(20, "sharp() without GOOD ones", told("sort 5 10 40;").sharp(), NONE);
        // At 60 THOUGHT is (90 LOOK and 10 (8 - LOOK)) by 8 less PAY by a half: 50 by 4, 60 by 5, 70 by 6 of 8.
        LemonMarket x = told("sort 5 0 10;sort 5 60 90;look 4 0;");
        due(20, "sharp()", x.sharp(), 5);
        x.set(1, 1, 61);
        due(20, "sharp() one above", x.sharp(), 6);
        due(20, "LOOK stays", x.rule(1), 4);
        x.set(1, 1, 90);
        due(20, "sharp() by 8", x.sharp(), 8);
        x.set(1, 1, 91);
        due(20, "sharp() not by 8", x.sharp(), NONE);
        due(20, "sharp() by 4", told("sort 5 0 50;").sharp(), 4);
        due(20, "sharp() at a price of 0", told("sort 5 0 0;mark 0;look 6 0;").sharp(), 4);
    }

    private static void promise21() {
        LemonMarket x = told("sort 20 10 20;sort 20 40 55;sort 20 60 90;fail 0 10;fail 1 4;must 2 3;mark 55;look 7 2;keen 4;");
        due(21, "days(0)", x.days(0), 4);
        due(21, "days(1)", x.days(1), 777600);
        LemonMarket same = told("sort 5 10 20;");
        due(21, "days(0): the least of several", same.days(0), 0);
        due(21, "days(1)", same.days(1), 40000);
        // Only by 10 do none of the second, which is dearer than it is worth, stay sold.
        LemonMarket most = told("sort 5 10 20;sort 5 9 0;fail 1 10;");
        due(21, "days(0): the most", most.days(0), 10);
        due(21, "days(1)", most.days(1), 40000);
        due(21, "days of a GAIN below 0", told("sort 5 40 20;must 0 1;").days(1), -16000);
        due(21, "days(0) of none", told("sort 5 50 40;").days(0), FAR_NONE);
        due(21, "days(1) of none", told("sort 5 50 40;").days(1), FAR_NONE);
        due(21, "days(-1)", x.days(-1), FAR_BAD);
        due(21, "days(2)", x.days(2), FAR_BAD);
    }

    private static void promise22() {
        LemonMarket x = new LemonMarket();
        int[][] keeps = {{1, 0, 0}, {99, 0, 0}, {99, 1, 1}, {1, 999, 999}, {99, 999, 11}, {10, 30, 3}, {10, 31, 4}, {10, 29, 3}};
        for (int[] k : keeps) due(22, "keep(" + k[0] + ", " + k[1] + ")", x.keep(k[0], k[1]), k[2]);
        int[][] bad = {{0, 1}, {100, 1}, {-1, 1}, {1, -1}, {1, 1000}, {LOW, LOW}, {HIGH, HIGH}};
        for (int[] b : bad) due(22, "keep(" + b[0] + ", " + b[1] + ")", x.keep(b[0], b[1]), BAD);
    }

    private static void promise23() {
        // At 30 both come: 20 and WOULD by 2 are 30 by 40.
        LemonMarket x = told("sort 5 0 20;sort 5 30 10;");
        due(23, "edge(1)", x.edge(1), 40);
        due(23, "edge(0): 1 at a price of 1", x.edge(0), 1);
        due(23, "WOULD stays", x.of(1, 2), 10);
        due(23, "edge(-1)", x.edge(-1), BAD);
        due(23, "edge(2)", x.edge(2), BAD);
        due(23, "edge of none", told("sort 5 0 0;sort 5 60 99;").edge(1), NONE);
        due(23, "edge by 99", told("sort 5 0 21;sort 5 60 0;").edge(1), 99);
        due(23, "edge by 100", told("sort 5 0 20;sort 5 60 0;").edge(1), NONE);
        due(23, "edge by 0", told("sort 5 0 90;sort 5 10 50;").edge(1), 0);
        due(23, "edge of HAS 99", told("sort 5 99 0;").edge(0), 99);
        // Those that MUST of it weigh only where it does not come whole.
        due(23, "edge with MUST", told("sort 5 10 50;must 0 5;").edge(0), 10);
        due(23, "edge behind a higher price", told("sort 5 0 0;sort 50 50 99;sort 5 0 0;").edge(2), 0);
    }

    private static void promise24() {
        LemonMarket x = told("sort 10 40 50;sort 10 0 0;sort 10 95 90;");
        // At 40 the first two are thought 500, and asked 800: 300 are lacking, and each of the third brings 50.
        due(24, "spur(2)", x.spur(2), 6);
        due(24, "MUST stays", x.of(2, 4), 0);
        x.set(2, 4, 9);
        due(24, "spur(2) asks not what MUST is", x.spur(2), 6);
        due(24, "spur(0): others MUST enough", x.spur(0), 0);
        x.set(2, 4, 0);
        due(24, "spur(0): its MUST is nothing more", x.spur(0), NONE);
        due(24, "spur(1)", x.spur(1), NONE);
        x.set(2, 0, 6);
        due(24, "spur(2) of just so many", x.spur(2), 6);
        x.set(2, 0, 5);
        due(24, "spur(2) of too few", x.spur(2), NONE);
        due(24, "spur(-1)", x.spur(-1), BAD);
        due(24, "spur(3)", x.spur(3), BAD);
        due(24, "spur: no WOULD above HAS", told("sort 5 50 50;").spur(0), NONE);
        due(24, "spur: none needed", told("sort 5 10 50;sort 5 90 20;").spur(1), 0);
        due(24, "spur at a price of 0", told("sort 1 0 1;sort 50 0 0;").spur(0), 0);
        // At 40 the first and the third are thought 760, and asked 800: each of the second brings 1.
        due(24, "spur(1) of small steps", told("sort 10 40 50;sort 50 50 41;sort 10 30 26;").spur(1), 40);
    }

    private static void promise25() {
        LemonMarket x = told("sort 10 10 20;sort 10 50 60;sort 10 40 20;fail 0 10;look 8 1;");
        // PLAIN: at 10 to 20 the first, GAIN 80000. The SORT bought out is the first of WOULD 20.
        due(25, "laws(0, 0, 0)", x.laws(0, 0, 0), 80000);
        due(25, "laws(0, 0, 1)", x.laws(0, 0, 1), 10);
        // Without the first no price RESTS (40 at 20, 50 at 40): 0 less 800 times 10 times 10.
        due(25, "laws(4, 0, 0)", x.laws(4, 0, 0), -80000);
        due(25, "laws(4, 0, 1)", x.laws(4, 0, 1), FAR_NONE);
        // LOOKED by 8: at 50 only the second is SOLD: 80000 less 800 for each of 30.
        due(25, "laws(2, 0, 0)", x.laws(2, 0, 0), 56000);
        due(25, "laws(2, 0, 1)", x.laws(2, 0, 1), 50);
        due(25, "laws(6, 0, 0)", x.laws(6, 0, 0), 80000 - 16000 - 80000);
        due(25, "laws(6, 0, 1)", x.laws(6, 0, 1), 50);
        // HEAP: 33 and a third are what it HAS, and what is THOUGHT: no whole price is both.
        due(25, "laws(8, 0, 0)", x.laws(8, 0, 0), 0);
        due(25, "laws(8, 0, 1)", x.laws(8, 0, 1), FAR_NONE);
        // WARRANT of 5: the first asks 15, is thought 25.
        due(25, "laws(1, 5, 0)", x.laws(1, 5, 0), 80000);
        due(25, "laws(1, 5, 1)", x.laws(1, 5, 1), 15);
        for (int bits : new int[] {3, 7, 9, 10, 11, 13, 14, 15, 16, 20, -1, LOW, HIGH}) due(25, "laws(" + bits + ", 0, 0)", x.laws(bits, 0, 0), FAR_BAD);
        due(25, "laws w -1", x.laws(0, -1, 0), FAR_BAD);
        due(25, "laws w 100", x.laws(0, 100, 0), FAR_BAD);
        due(25, "laws w 99", x.laws(0, 99, 0), 80000);
        due(25, "laws what -1", x.laws(0, 0, -1), FAR_BAD);
        due(25, "laws what 2", x.laws(0, 0, 2), FAR_BAD);
        LemonMarket none = new LemonMarket();
        for (int bits : new int[] {4, 5, 6, 12}) due(25, "laws(" + bits + ") without SORTS", none.laws(bits, 0, 0), FAR_BAD);
        for (int bits : new int[] {0, 1, 2, 8}) due(25, "laws(" + bits + ") without SORTS", none.laws(bits, 0, 0), 0);
        due(25, "SORTS stay", x.count(0), 3);
        due(25, "the only SORT is bought out", told("sort 2 3 50;").laws(4, 0, 0), -4800);
        // A SORT in the middle is bought out: those behind it stay as they are.
        due(25, "the middle is bought out", told("sort 1 10 20;sort 1 0 0;sort 1 30 90;must 1 1;").laws(4, 0, 0), 56000);
        LemonMarket behind = told("sort 1 0 0;sort 2 95 90;sort 3 20 60;must 1 2;fail 2 10;");
        due(25, "MUST goes along", behind.laws(4, 0, 0), 2 * 800 * -5 + 3 * 800 * 40);
        due(25, "FAIL goes along", behind.laws(5, 9, 1), 29);
    }

    private static void promise26() {
        LemonMarket x = told("sort 10 10 20;sort 10 50 60;sort 10 40 20;fail 0 10;look 8 1;");
        // None is better than 80000; 0 and 1 have it.
        due(26, "bestLaws(5, 0)", x.bestLaws(5, 0), 0);
        due(26, "bestLaws(5, 1)", x.bestLaws(5, 1), 80000);
        // PLAIN only the third is sold with those that are worth nothing; a heap of all brings as much as 4, by more bits.
        LemonMarket y = told("sort 20 0 0;sort 10 50 90;sort 10 20 60;must 0 9;");
        due(26, "to buy out what is worth nothing", y.bestLaws(0, 0), 4);
        due(26, "its OUTCOME", y.bestLaws(0, 1), 640000);
        due(26, "PLAIN", y.laws(0, 0, 0), 320000);
        due(26, "HEAP", y.laws(8, 0, 0), 640000);
        LemonMarket heap = told("sort 10 0 20;sort 10 50 60;");
        due(26, "a heap", heap.bestLaws(0, 0), 8);
        due(26, "its OUTCOME", heap.bestLaws(0, 1), 240000);
        // By a WARRANT of 41 the first asks 51 and is thought 61: both are sold, as by a heap, by fewer bits.
        LemonMarket warrant = told("sort 10 10 20;sort 10 50 60;fail 0 10;");
        due(26, "a warrant", warrant.bestLaws(41, 0), 1);
        due(26, "its OUTCOME", warrant.bestLaws(41, 1), 160000);
        due(26, "without it", warrant.bestLaws(0, 0), 8);
        LemonMarket below = told("sort 10 40 20;must 0 5;");
        due(26, "the least loss", below.bestLaws(0, 1), 0);
        due(26, "its LAWS", below.bestLaws(0, 0), 8);
        due(26, "bestLaws without SORTS", new LemonMarket().bestLaws(99, 0), 0);
        for (int w : new int[] {-1, 100, LOW, HIGH}) due(26, "bestLaws(" + w + ", 0)", x.bestLaws(w, 0), FAR_BAD);
        due(26, "bestLaws what -1", x.bestLaws(0, -1), FAR_BAD);
        due(26, "bestLaws what 2", x.bestLaws(0, 2), FAR_BAD);
    }

    private static void promise27() {
        LemonMarket x = told("sort 10 0 33;keen 3;");
        // 3 times 33 and 7 times 99 are 792: 79, then 65, 55, 48, 43, 40, 37, 35, 34, 33.
        int[] path = {99, 79, 65, 55, 48, 43, 40, 37, 35, 34, 33, 33};
        for (int n = 0; n < path.length; n++) due(27, "learn(99, " + n + ", 0)", x.learn(99, n, 0), path[n]);
        due(27, "learn(99, 99, 0)", x.learn(99, 99, 0), 33);
        due(27, "learn(99, 0, 1)", x.learn(99, 0, 1), 10);
        due(27, "learn(33, 99, 1)", x.learn(33, 99, 1), 0);
        // Below, 30 stays: 3 times 33 and 7 times 30 are 309.
        due(27, "learn(29, 1, 0)", x.learn(29, 1, 0), 30);
        due(27, "learn(29, 0, 1)", x.learn(29, 0, 1), 1);
        // By 10 all is learned at once; at 50 both are thought 45, at 45 the first alone 90.
        LemonMarket turns = told("sort 10 0 90;sort 10 50 0;keen 10;");
        due(27, "a turn", turns.learn(50, 1, 0), 45);
        due(27, "a turn", turns.learn(50, 2, 0), 90);
        due(27, "a turn", turns.learn(50, 99, 0), 45);
        due(27, "a turn for good", turns.learn(50, 0, 1), NONE);
        due(27, "learn without SORTS", new LemonMarket().learn(99, 1, 0), 49);
        int[][] bad = {{-1, 0, 0}, {100, 0, 0}, {0, -1, 0}, {0, 100, 0}, {0, 100, 1}, {0, 0, -1}, {0, 0, 2}, {HIGH, HIGH, HIGH}};
        for (int[] b : bad) due(27, "learn(" + b[0] + ", " + b[1] + ", " + b[2] + ")", x.learn(b[0], b[1], b[2]), BAD);
    }

    private static void promise28() {
        LemonMarket x = new LemonMarket();
        int[][] bad = {{-1, 0, 1}, {4, 0, 1}, {0, -1, 1}, {0, 3, 1}, {0, 0, 41}, {0, 0, HIGH}, {4, 0, -1}, {0, 3, -1}, {LOW, LOW, LOW}};
        for (int[] b : bad) due(28, "sheet(" + b[0] + ", " + b[1] + ", " + b[2] + ")", x.sheet(b[0], b[1], b[2]), BAD);
        due(28, "sheet(0, 0, -1)", x.sheet(0, 0, -1), -14);
        due(28, "sheet(0, 0, LOW)", x.sheet(0, 0, LOW), -14);
        due(28, "nothing yet", x.count(5), NONE);
        due(28, "sheet(0, 2, 40)", x.sheet(0, 2, 40), 1);
        due(28, "CELLS", x.count(5), 40);
        due(28, "sheet(0, 0, -1)", x.sheet(0, 0, -1), -14);
        due(28, "CELLS stay", x.count(5), 40);
        x.lay(0, 0, 9);
        x.lay(0, 1, 9);
        x.lay(0, 2, 9);
        due(28, "sheet(0, 2, 0)", x.sheet(0, 2, 0), 1);
        due(28, "no CELLS", x.count(5), 0);
        due(28, "sheet(0, 2, 4)", x.sheet(0, 2, 4), 1);
        due(28, "a new row of 0", x.read(0, 2, 0, 1), -20);
        x.lay(0, 0, 9);
        due(28, "all but one are 0", x.read(0, 2, 0, 1), 1);
        due(28, "HAS", x.of(0, 1), 0);
        due(28, "WOULD", x.of(0, 2), 0);
    }

    private static void promise29() {
        LemonMarket x = new LemonMarket();
        x.sheet(1, 0, 4);
        for (int k : new int[] {-1, 4, LOW, HIGH}) due(29, "lay(" + k + ", 0, 0)", x.lay(k, 0, 0), BAD);
        due(29, "lay on nothing", x.lay(0, 0, 0), -11);
        due(29, "lay on nothing", x.lay(0, -1, 0), -11);
        for (int i : new int[] {-1, 4, LOW, HIGH}) due(29, "lay(1, " + i + ", 0)", x.lay(1, i, 0), -12);
        due(29, "lay on the last CELL", x.lay(1, 3, 0), 1);
        x.sheet(3, 1, 0);
        due(29, "lay on no CELLS", x.lay(3, 0, 0), -12);
        // 256 times n and 7 is 7 as a byte, 65536 times n and 7 as a short; 135 is below 0 as a byte.
        int[][] values = {{0, 0x1207, 7}, {0, 135, -20}, {0, -249, 7}, {1, 0x10007, 7}, {1, 0x1207, -20}, {1, -65529, 7}, {2, 7, 7}, {2, 0x10007, -20}, {2, -249, -20}};
        for (int[] v : values) {
            LemonMarket y = new LemonMarket();
            y.sheet(2, v[0], 4);
            due(29, "lay(2, 0, " + v[1] + ")", y.lay(2, 0, v[1]), 1);
            int came = y.read(2, v[0], 0, 1);
            due(29, "lane " + v[0] + " of " + v[1], came == 1 ? y.of(0, 0) : came, v[2]);
        }
    }

    private static LemonMarket sheet(int lane, int... cells) {
        LemonMarket x = new LemonMarket();
        x.sheet(1, lane, cells.length);
        for (int i = 0; i < cells.length; i++) x.lay(1, i, cells[i]);
        return x;
    }

    private static void promise30() {
        for (int lane = 0; lane < 3; lane++) {
            LemonMarket x = sheet(lane, 99, 1, 2, 3, 4, 50, 99, 99, 10, 0);
            due(30, "read of two", x.read(1, lane, 1, 2), 2);
            int[][] of = {{1, 2, 3, 4, 0}, {50, 99, 99, 10, 0}};
            for (int s = 0; s < 2; s++) for (int i = 0; i < 5; i++) due(30, "of(" + s + ", " + i + ")", x.of(s, i), of[s][i]);
            due(30, "torn()", x.torn(), 0);
            due(30, "read of three: two are whole", x.read(1, lane, 1, 3), 2);
            due(30, "torn()", x.torn(), 2);
            due(30, "count(0)", x.count(0), 4);
            due(30, "read as of another lane", x.read(1, (lane + 1) % 3, 1, 2), 0);
            due(30, "torn()", x.torn(), 3);
            due(30, "read of nothing", x.read(2, lane, 0, 1), 0);
            due(30, "torn()", x.torn(), 1);
            for (int f : new int[] {-1, -4, 7, 10, LOW, HIGH}) {
                due(30, "read from " + f, x.read(1, lane, f, 1), 0);
                due(30, "torn()", x.torn(), 2);
            }
            due(30, "read of none", x.read(1, lane, 0, 0), 0);
            due(30, "torn()", x.torn(), 0);
            int[][] bad = {{-1, 0, 1}, {4, 0, 1}, {1, -1, 1}, {1, 3, 1}, {1, 0, -1}, {1, 0, 9}, {HIGH, HIGH, HIGH}};
            for (int[] b : bad) due(30, "read of a wrong number", x.read(b[0], b[1], 1, b[2]), BAD);
            due(30, "count(0)", x.count(0), 4);
        }
        int[][] spoilt = {{0, 1, 1, 1}, {51, 1, 1, 1}, {1, -1, 1, 1}, {1, 100, 1, 1}, {1, 1, -1, 1}, {1, 1, 100, 1}, {1, 1, 1, -1}, {1, 1, 1, 11}};
        for (int[] s : spoilt) {
            LemonMarket x = sheet(0, 1, 1, 1, 1, s[0], s[1], s[2], s[3], 1);
            due(30, "SORT 1 is not as told", x.read(1, 0, 0, 3), -21);
            due(30, "SORT 0 is not as told", x.read(1, 0, 4, 2), -20);
            due(30, "none came", x.count(0), 0);
        }
        readFull();
        LemonMarket y = new LemonMarket();
        for (int k = 0; k < 4; k++) {
            y.sheet(k, 0, 4);
            y.lay(k, 0, 10 + k);
            due(30, "SHEET " + k, y.read(k, 0, 0, 1), 1);
            due(30, "its SORT", y.of(k, 0), 10 + k);
        }
    }

    private static void readFull() {
        LemonMarket x = sheet(2, 1, 1, 1, 1, 2, 2, 2, 2, 0, 0, 0, 0, 3);
        for (int i = 0; i < 7; i++) x.sort(1, 1, 1);
        due(30, "the 9th is met ahead of what is not as told", x.read(1, 2, 0, 3), FULL);
        due(30, "none came", x.count(0), 7);
        due(30, "the 8th", x.read(1, 2, 4, 1), 1);
        due(30, "it came", x.of(7, 0), 2);
        due(30, "the 9th", x.read(1, 2, 0, 1), FULL);
        due(30, "the 9th is not as told", x.read(1, 2, 8, 1), -20);
        due(30, "the 9th is not whole", x.read(1, 2, 12, 1), 0);
        due(30, "torn()", x.torn(), 2);
        due(30, "count(0)", x.count(0), 8);
    }

    private static void promise31() {
        LemonMarket x = sheet(0, 1, 1, 1, 1, 0, 0, 0, 0);
        x.read(0, 0, 0, 1);
        due(31, "torn() of NULL", x.torn(), 1);
        due(31, "not as told", x.read(1, 0, 0, 2), -21);
        due(31, "torn() stays", x.torn(), 1);
        due(31, "BAD", x.read(1, 0, 0, 9), BAD);
        due(31, "torn() stays", x.torn(), 1);
        for (int i = 0; i < 8; i++) x.sort(1, 1, 1);
        due(31, "FULL", x.read(1, 0, 0, 1), FULL);
        due(31, "torn() stays", x.torn(), 1);
        x.text();
        due(31, "torn() stays behind a text", x.torn(), 1);
        due(31, "a read that is whole", x.read(1, 0, 0, 1), 1);
        due(31, "torn()", x.torn(), 0);
    }

    private static void promise32() {
        LemonMarket x = told("sort 10 1 49;sort 20 1 50;sort 30 1 99;must 0 3;must 2 30;");
        x.sheet(0, 1, 7);
        x.sheet(1, 1, 9);
        x.feed(0);
        int[] counts = {3, 60, 33, 2, 8, 7};
        for (int i = 0; i < 6; i++) due(32, "count(" + i + ")", x.count(i), counts[i]);
        for (int i : new int[] {-1, 6, LOW, HIGH}) due(32, "count(" + i + ")", x.count(i), BAD);
        x.sheet(0, 0, 0);
        due(32, "count(5) of no CELLS", x.count(5), 0);
    }

    /** kind, w, p that are not as told, in every call that takes them; and those that just are. */
    private static void wrongOffers() {
        LemonMarket x = three();
        int[][] bad = {{-1, 0}, {5, 0}, {LOW, 0}, {HIGH, 0}, {0, -1}, {0, 100}, {1, -1}, {1, 100}, {2, -1}, {2, 100}, {3, -1}, {3, 11}, {4, -1}, {4, 100}, {0, LOW}, {0, HIGH}};
        for (int[] b : bad) wrongOffer(x, b[0], b[1], 50);
        for (int p : new int[] {-1, 100, LOW, HIGH}) wrongPrice(x, 0, 0, p);
        int[][] fit = {{0, 99}, {1, 99}, {2, 99}, {3, 10}, {4, 99}};
        for (int[] f : fit) due(10, "comes(" + f[0] + ", " + f[1] + ", 99, 1) is not BAD", x.comes(f[0], f[1], 99, 1) >= 12 ? 1 : 0, 1);
    }

    private static void wrongOffer(LemonMarket x, int kind, int w, int p) {
        wrongPrice(x, kind, w, p);
        due(13, "rests of a wrong OFFER", x.rests(kind, w, 0), BAD);
        due(17, "best of a wrong OFFER", x.best(kind, w, 0), FAR_BAD);
    }

    private static void wrongPrice(LemonMarket x, int kind, int w, int p) {
        due(10, "comes of a wrong number", x.comes(kind, w, p, 0), BAD);
        due(11, "sold of a wrong number", x.sold(kind, w, p, 0), BAD);
        due(12, "thought of a wrong number", x.thought(kind, w, p, 0), FAR_BAD);
        due(14, "fall of a wrong number", x.fall(kind, w, p, 0), BAD);
        due(15, "gain of a wrong number", x.gain(kind, w, p), FAR_BAD);
        due(16, "lost of a wrong number", x.lost(kind, w, p), BAD);
    }
}
