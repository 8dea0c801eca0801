import java.util.Arrays;

/** Bounds of SHEETS: lanes, CELLS, the FAULTS that the machine finds, what read() makes of them. */
final class SheetBounds {
    private static final int[] ONE = {1, 2, 3, 4};

    private SheetBounds() {
    }

    static void test(Bounds b) {
        sheetNumbers(b);
        sheetBelowNothing(b);
        sheetIsNew(b);
        layNumbers(b);
        layFaults(b);
        layLowestBits(b);
        readNumbers(b);
        readFaults(b);
        readFromCell(b);
        readWholeAhead(b);
        readNotAsTold(b);
        readBoundsOfSort(b);
        readFull(b);
        readFirstMet(b);
        tornOfTheLatest(b);
    }

    private static void sheetNumbers(Bounds b) {
        b.says(28, "A SHEET is a new row of CELLS 0: 1. BAD: also n above 40;");
        for (int n = -3; n <= 44; n++) {
            for (int lane = -1; lane <= 3; lane++) {
                LemonMarket x = new LemonMarket();
                boolean bad = !Bounds.in(lane, 0, 2) || n > 40;
                b.due("sheet(0, " + lane + ", " + n + ")", x.sheet(0, lane, n), bad ? Bounds.BAD : n < 0 ? -14 : 1);
                b.due("count(5)", x.count(5), bad || n < 0 ? Bounds.NONE : n);
            }
        }
        LemonMarket x = new LemonMarket();
        for (int k : new int[] {Bounds.LOW, -2, -1, 4, 5, 256, Bounds.HIGH}) b.due("sheet(" + k + ", 0, 4)", x.sheet(k, 0, 4), Bounds.BAD);
        for (int lane : new int[] {Bounds.LOW, -1, 3, 256, Bounds.HIGH}) b.due("sheet(0, " + lane + ", 4)", x.sheet(0, lane, 4), Bounds.BAD);
        for (int n : new int[] {41, 256, 65536, Bounds.HIGH}) b.due("sheet(0, 0, " + n + ")", x.sheet(0, 0, n), Bounds.BAD);
        for (int k = 0; k < 4; k++) {
            b.due("lay(" + k + ", 0, 1) of nothing", x.lay(k, 0, 1), -11);
            b.due("sheet(" + k + ", 2, 1)", x.sheet(k, 2, 1), 1);
            b.due("lay(" + k + ", 0, 1)", x.lay(k, 0, 1), 1);
        }
    }

    private static void sheetBelowNothing(Bounds b) {
        b.says(28, "-10 - 4.");
        LemonMarket x = Bounds.sheet(0, ONE);
        for (int n : new int[] {-1, -2, -40, -41, Bounds.LOW}) {
            for (int lane = 0; lane <= 2; lane++) b.due("sheet(1, " + lane + ", " + n + ")", x.sheet(1, lane, n), -14);
            // BAD is ahead of it.
            b.due("sheet(4, 0, " + n + ")", x.sheet(4, 0, n), Bounds.BAD);
            b.due("sheet(1, 3, " + n + ")", x.sheet(1, 3, n), Bounds.BAD);
        }
        b.due("the row stays", x.read(1, 0, 0, 1), 1);
        for (int i = 0; i < 4; i++) b.due("of(0, " + i + ")", x.of(0, i), ONE[i]);
    }

    private static void sheetIsNew(Bounds b) {
        b.says(Bounds.TERMS, "SHEETS 0 to 3 are rows of BYTES (lane 0), SHORTS (1), INTS (2) with 0 to 40 CELLS, or nothing (at first).");
        for (int lane = 0; lane <= 2; lane++) {
            LemonMarket x = new LemonMarket();
            int[] full = new int[40];
            Arrays.fill(full, 9);
            Bounds.layAll(x, 2, lane, full);
            b.due("the last four CELLS", x.read(2, lane, 36, 1), 1);
            // A shorter row has no more CELLS, and a longer one none of the old numbers.
            x.sheet(2, lane, 4);
            b.due("lay(2, 4, 9)", x.lay(2, 4, 9), -12);
            x.sheet(2, lane, 40);
            for (int f = 0; f <= 36; f++) b.due("read from " + f, x.read(2, lane, f, 1), -20);
            x.text();
            for (int i = 0; i < 8; i++) x.lay(2, 4 * i, 1);
            b.due("a row of CELLS 0", x.read(2, lane, 0, 8), 8);
            for (int s = 0; s < 8; s++) for (int i = 1; i < 4; i++) b.due("of(" + s + ", " + i + ")", x.of(s, i), 0);
            x.text();
            // Another lane takes its place.
            x.sheet(2, (lane + 1) % 3, 40);
            b.due("the old lane", x.read(2, lane, 0, 1), 0);
            b.due("torn()", x.torn(), 3);
            b.due("the new lane", x.read(2, (lane + 1) % 3, 0, 1), -20);
        }
    }

    private static void layNumbers(Bounds b) {
        b.says(29, "CELL i of a SHEET becomes v (its lowest bits): 1. BAD: k;");
        LemonMarket x = Bounds.sheet(0, ONE);
        for (int k : new int[] {Bounds.LOW, -2, -1, 4, 5, 256, Bounds.HIGH}) {
            b.due("lay(" + k + ", 0, 9)", x.lay(k, 0, 9), Bounds.BAD);
            b.due("lay(" + k + ", -1, 9)", x.lay(k, -1, 9), Bounds.BAD);
        }
        for (int i = 0; i < 4; i++) b.due("lay(1, " + i + ", 7)", x.lay(1, i, 7), 1);
        b.due("read", x.read(1, 0, 0, 1), 1);
        for (int i = 0; i < 4; i++) b.due("of(0, " + i + ")", x.of(0, i), 7);
    }

    private static void layFaults(Bounds b) {
        b.says(29, "-10 less the FAULT: NULL, INDEX.");
        LemonMarket x = new LemonMarket();
        int[] far = {Bounds.LOW, -256, -2, -1, 40, 41, 256, Bounds.HIGH};
        for (int k = 0; k < 4; k++) {
            b.due("lay(" + k + ", 0, 9) of nothing", x.lay(k, 0, 9), -11);
            for (int i : far) b.due("lay(" + k + ", " + i + ", 9) of nothing", x.lay(k, i, 9), -11);
        }
        for (int n : new int[] {0, 1, 2, 39, 40}) {
            x.sheet(3, n % 3, n);
            b.due("lay on the first of " + n, x.lay(3, 0, 9), n > 0 ? 1 : -12);
            b.due("lay on the last of " + n, x.lay(3, n - 1, 9), n > 0 ? 1 : -12);
            b.due("lay behind the last of " + n, x.lay(3, n, 9), -12);
            for (int i : far) b.due("lay(3, " + i + ", 9) of " + n, x.lay(3, i, 9), -12);
        }
    }

    /** What MANY, 1 to 50, is read of a CELL in which v was laid; -20, if it is not as told. */
    private static int laid(int lane, int v) {
        LemonMarket x = Bounds.sheet(lane, v, 0, 0, 0);
        int came = x.read(1, lane, 0, 1);
        return came == 1 ? x.of(0, 0) : came;
    }

    private static void layLowestBits(Bounds b) {
        b.says(29, "CELL i of a SHEET becomes v (its lowest bits): 1.");
        int[] tops = {0, 1, -1, 127, 128, -128};
        for (int top : tops) {
            for (int v : new int[] {1, 7, 50}) {
                b.due("BYTES: " + v + " and 256 times " + top, laid(0, 256 * top + v), v);
                b.due("SHORTS: " + v + " and 65536 times " + top, laid(1, 65536 * top + v), v);
                b.due("SHORTS: " + v + " and 256 times " + top, laid(1, 256 * top + v), top == 0 ? v : -20);
                b.due("INTS: " + v + " and 65536 times " + top, laid(2, 65536 * top + v), top == 0 ? v : -20);
                b.due("INTS: " + v + " and 256 times " + top, laid(2, 256 * top + v), top == 0 ? v : -20);
            }
        }
        for (int lane = 0; lane <= 2; lane++) {
            for (int v : new int[] {0, 51, 127, 128, 255, -1, Bounds.LOW, Bounds.HIGH}) b.due("lane " + lane + ": " + v, laid(lane, v), -20);
        }
        b.due("BYTES: the highest bit and 1", laid(0, Bounds.LOW + 1), 1);
        b.due("SHORTS: the highest bit and 1", laid(1, Bounds.LOW + 1), 1);
        b.due("INTS: the highest bit and 1", laid(2, Bounds.LOW + 1), -20);
    }

    private static void readNumbers(Bounds b) {
        b.says(30, "BAD: k, lane, n;");
        LemonMarket x = Bounds.sheet(0, ONE);
        int[] far = {Bounds.LOW, -256, -2, -1, 9, 10, 256, Bounds.HIGH};
        for (int v : far) {
            b.due("read(" + v + ", 0, 0, 1)", x.read(v, 0, 0, 1), Bounds.BAD);
            b.due("read(1, " + v + ", 0, 1)", x.read(1, v, 0, 1), Bounds.BAD);
            b.due("read(1, 0, 0, " + v + ")", x.read(1, 0, 0, v), Bounds.BAD);
            b.due("read(0, 0, 0, " + v + ") of nothing", x.read(0, 0, 0, v), Bounds.BAD);
        }
        b.due("read(4, 0, 0, 1)", x.read(4, 0, 0, 1), Bounds.BAD);
        b.due("read(1, 3, 0, 1)", x.read(1, 3, 0, 1), Bounds.BAD);
        b.due("read(4, 0, 0, 0)", x.read(4, 0, 0, 0), Bounds.BAD);
        b.due("read(1, 3, 0, 0)", x.read(1, 3, 0, 0), Bounds.BAD);
        b.due("count(0)", x.count(0), 0);
        b.says(30, "n (0 to 8) SORTS (MANY, HAS, WOULD, FAIL) are read of a SHEET taken as of a lane");
        b.due("read(1, 0, 0, 0)", x.read(1, 0, 0, 0), 0);
        b.due("torn()", x.torn(), 0);
        b.due("read(1, 0, 0, 8)", x.read(1, 0, 0, 8), 1);
        b.due("torn()", x.torn(), 2);
    }

    private static void readIs(Bounds b, String call, LemonMarket x, int got, int came, int torn) {
        b.due(call, got, came);
        b.due(call + ", torn()", x.torn(), torn);
    }

    private static void readFaults(Bounds b) {
        b.says(Bounds.TERMS, "A FAULT is what the machine finds: 1 NULL (nothing), 2 INDEX, 3 CAST (another lane), 4 SIZE (below 0).");
        int[] places = {0, -1, 1, 40, Bounds.LOW, Bounds.HIGH};
        for (int lane = 0; lane <= 2; lane++) {
            LemonMarket x = Bounds.sheet(lane, ONE);
            for (int f : places) {
                // Nothing can be taken as of every lane, and has no CELL; another lane is found ahead of the CELL.
                for (int as = 0; as <= 2; as++) {
                    readIs(b, "read(0, " + as + ", " + f + ", 1)", x, x.read(0, as, f, 1), 0, 1);
                    if (as != lane) readIs(b, "read(1, " + as + ", " + f + ", 1)", x, x.read(1, as, f, 1), 0, 3);
                }
                if (f != 0) readIs(b, "read(1, " + lane + ", " + f + ", 1)", x, x.read(1, lane, f, 1), 0, 2);
            }
            b.due("count(0)", x.count(0), 0);
            x.sheet(2, lane, 0);
            readIs(b, "read(2, lane, 0, 1) of no CELLS", x, x.read(2, lane, 0, 1), 0, 2);
            readIs(b, "read(2, another, 0, 1) of no CELLS", x, x.read(2, (lane + 1) % 3, 0, 1), 0, 3);
        }
    }

    private static void readFromCell(Bounds b) {
        b.says(30, "four CELLS each from CELL f on: how many came.");
        for (int n = 0; n <= 40; n++) {
            int[] cells = new int[n];
            Arrays.fill(cells, 5);
            for (int f : new int[] {n - 5, n - 4, n - 3, n - 1, n}) {
                LemonMarket x = Bounds.sheet(n % 3, cells);
                boolean whole = f >= 0 && f + 4 <= n;
                readIs(b, n + " CELLS: read from " + f, x, x.read(1, n % 3, f, 1), whole ? 1 : 0, whole ? 0 : 2);
                b.due("count(0)", x.count(0), whole ? 1 : 0);
            }
        }
        LemonMarket x = Bounds.sheet(0, 11, 12, 13, 4, 15, 16, 17, 8, 19, 20);
        int[] far = {-8, -4, -3, -2, -1, Bounds.LOW, Bounds.LOW + 4, Bounds.HIGH, Bounds.HIGH - 3, Bounds.HIGH - 4};
        for (int f : far) readIs(b, "read(1, 0, " + f + ", 8)", x, x.read(1, 0, f, 8), 0, 2);
        readIs(b, "read(1, 0, 0, 2)", x, x.read(1, 0, 0, 2), 2, 0);
        int[][] of = {{11, 12, 13, 4, 0}, {15, 16, 17, 8, 0}};
        for (int s = 0; s < 2; s++) for (int i = 0; i < 5; i++) b.due("of(" + s + ", " + i + ")", x.of(s, i), of[s][i]);
    }

    private static void readWholeAhead(Bounds b) {
        b.says(30, "What the machine refuses: those that were whole ahead come (its FAULT is asked by torn()).");
        for (int cells = 0; cells <= 40; cells++) {
            int[] row = new int[cells];
            Arrays.fill(row, 3);
            for (int n = 0; n <= 8; n++) {
                LemonMarket x = Bounds.sheet(cells % 3, row);
                int came = Math.min(n, cells / 4);
                readIs(b, cells + " CELLS: read(.., 0, " + n + ")", x, x.read(1, cells % 3, 0, n), came, came < n ? 2 : 0);
                b.due("count(0)", x.count(0), came);
            }
        }
    }

    private static int[] sorts(int n) {
        int[] cells = new int[4 * n];
        for (int i = 0; i < n; i++) cells[4 * i] = i + 1;
        return cells;
    }

    private static void readNotAsTold(Bounds b) {
        b.says(30, "-20 less i: SORT i, whole, is not as told: then none came;");
        for (int i = 0; i < 8; i++) {
            int[] cells = sorts(8);
            cells[4 * i] = 0;
            LemonMarket x = Bounds.sheet(2, cells);
            b.due("SORT " + i + " of 8", x.read(1, 2, 0, 8), -20 - i);
            b.due("none came", x.count(0), 0);
            b.due("those ahead of it", x.read(1, 2, 0, i), i);
            b.due("they came", x.count(0), i);
            b.due("from it on", x.read(1, 2, 4 * i, 1), -20);
        }
        // Not whole, it is not asked whether it is as told.
        LemonMarket x = Bounds.sheet(2, 1, 1, 1, 1, 0, 100, 100);
        readIs(b, "not whole", x, x.read(1, 2, 0, 2), 1, 2);
    }

    private static void readBoundsOfSort(Bounds b) {
        b.says(Bounds.TERMS, "how MANY (1 to 50), what one is worth to who HAS it, to who WOULD have it (0 to 99 each), of 10 how many FAIL (0 to 10; 0)");
        int[] least = {1, 0, 0, 0};
        int[] most = {50, 99, 99, 10};
        for (int lane = 0; lane <= 2; lane++) {
            for (int i = 0; i < 4; i++) {
                for (int v = -2; v <= 102; v++) {
                    int[] cells = {5, 5, 5, 5};
                    cells[i] = v;
                    LemonMarket x = Bounds.sheet(lane, cells);
                    boolean fits = Bounds.in(v, least[i], most[i]);
                    b.due("lane " + lane + ", CELL " + i + " is " + v, x.read(1, lane, 0, 1), fits ? 1 : -20);
                    b.due("of(0, " + i + ")", x.of(0, i), fits ? v : Bounds.BAD);
                    b.due("of(0, 4)", x.of(0, 4), fits ? 0 : Bounds.BAD);
                }
            }
        }
    }

    private static void readFull(Bounds b) {
        b.says(30, "FULL: it would be the 9th: likewise;");
        for (int had = 0; had <= 8; had++) {
            for (int n = 0; n <= 8; n++) {
                LemonMarket x = Bounds.sheet(0, sorts(8));
                for (int s = 0; s < had; s++) x.sort(40, 1, 1);
                boolean full = had + n > 8;
                b.due(had + " SORTS, " + n + " more", x.read(1, 0, 0, n), full ? Bounds.FULL : n);
                b.due("count(0)", x.count(0), full ? had : had + n);
                b.due("the last", x.of(had + n - 1, 0), full ? Bounds.BAD : n == 0 ? had == 0 ? Bounds.BAD : 40 : n);
            }
        }
    }

    private static void readFirstMet(Bounds b) {
        b.says(30, "the first met.");
        // SORTS 0 and 1 are as told, 2 is not, 3 is as told, 4 is not whole; 5 to 8 SORTS are there.
        int[] cells = {1, 1, 1, 1, 2, 2, 2, 2, 0, 0, 0, 0, 4, 4, 4, 4, 5, 5};
        int[] five = {0, 1, 2, -22, -22, -22};
        int[] six = {0, 1, 2, -22, -22, -22};
        int[] seven = {0, 1, Bounds.FULL, Bounds.FULL, Bounds.FULL, Bounds.FULL};
        int[] eight = {0, Bounds.FULL, Bounds.FULL, Bounds.FULL, Bounds.FULL, Bounds.FULL};
        int[][] due = {five, six, seven, eight};
        for (int had = 5; had <= 8; had++) {
            for (int n = 0; n <= 5; n++) {
                LemonMarket x = Bounds.sheet(1, cells);
                for (int s = 0; s < had; s++) x.sort(40, 1, 1);
                b.due(had + " SORTS: read(1, 1, 0, " + n + ")", x.read(1, 1, 0, n), due[had - 5][n]);
                b.due("count(0)", x.count(0), had + Math.max(0, due[had - 5][n]));
            }
        }
        LemonMarket x = Bounds.sheet(1, cells);
        b.due("none there: what is not as told is met ahead of the end", x.read(1, 1, 0, 5), -22);
        readIs(b, "from 12 on the end is met", x, x.read(1, 1, 12, 2), 1, 2);
        // Where there is no room left the machine still refuses what it refuses.
        for (int s = 1; s < 8; s++) x.sort(40, 1, 1);
        readIs(b, "8 SORTS: not whole", x, x.read(1, 1, 16, 1), 0, 2);
        readIs(b, "8 SORTS: another lane", x, x.read(1, 0, 0, 1), 0, 3);
        readIs(b, "8 SORTS: nothing", x, x.read(0, 1, 0, 1), 0, 1);
        b.due("8 SORTS: not as told", x.read(1, 1, 8, 1), -20);
    }

    private static void tornOfTheLatest(Bounds b) {
        b.says(31, "The FAULT of the latest read() that came to an end; 0.");
        LemonMarket x = Bounds.sheet(0, 1, 1, 1, 1, 0, 0, 0, 0, 1);
        b.due("torn() of none", x.torn(), 0);
        int[][] reads = {{0, 0, 0, 1}, {1, 0, 7, 1}, {1, 1, 0, 1}, {1, 0, 0, 1}};
        int[] torn = {1, 2, 3, 0};
        for (int r = 0; r < 4; r++) {
            x.read(reads[r][0], reads[r][1], reads[r][2], reads[r][3]);
            b.due("torn()", x.torn(), torn[r]);
            // What is refused did not come to an end.
            b.due("BAD", x.read(4, 0, 0, 1), Bounds.BAD);
            b.due("torn() behind BAD", x.torn(), torn[r]);
            b.due("not as told", x.read(1, 0, 0, 2), -21);
            b.due("torn() behind what is not as told", x.torn(), torn[r]);
            while (x.sort(1, 1, 1) >= 0) continue;
            b.due("FULL", x.read(1, 0, 0, 1), Bounds.FULL);
            b.due("torn() behind FULL", x.torn(), torn[r]);
            x.text();
            x.sheet(3, 0, -1);
            x.lay(2, 0, 0);
            x.lay(1, 9, 0);
            b.due("torn() behind other calls", x.torn(), torn[r]);
        }
    }
}
