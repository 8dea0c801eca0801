/** A market for lemons, as ../shared/DOC.md promises it; words in capitals are the document's terms. */
public final class LemonMarket {
    public static final int BAD = -1, STATE = -2, FULL = -3, NONE = -4;

    // Where an answer may itself be below 0, refusals stand far below all that could be answered.
    private static final int FAR_BAD = -1000000000, FAR_NONE = -1000000004;

    private static final int SORTS = 8, PRICES = 100, HORSE = 800;
    private static final int MANY = 0, HAS = 1, WOULD = 2, FAIL = 3, MUST = 4, GOOD = 5;
    private static final int PLAIN = 0, WARRANT = 1, LOOKED = 2, BACK = 3, HEAP = 4;
    private static final int LAW_WARRANT = 1, LAW_LOOKED = 2, LAW_BUY_OUT = 4, LAW_HEAP = 8;
    private static final int SHEETS = 4, LANES = 3, MOST_CELLS = 40, CELLS_OF_SORT = 4;
    private static final int NULL = 1, INDEX = 2, CAST = 3, SIZE = 4;

    // More than any number that is asked for: no number of steps is enough.
    private static final int NEVER = 1000000;

    private final Tape tape;
    private final Reader reader;
    private final Trade trade;
    private final Sheet[] sheets;
    private Stock held;
    // What a text tells while it is read, and what a question changes to try it: nothing stays in it between calls.
    private Stock spare;
    private int textFault;
    private int readFault;

    public LemonMarket() {
        tape = new Tape();
        reader = new Reader(tape);
        trade = new Trade();
        sheets = new Sheet[SHEETS];
        for (int k = 0; k < SHEETS; k++) {
            sheets[k] = new Sheet();
        }
        held = new Stock();
        held.clear();
        spare = new Stock();
        spare.clear();
        textFault = 0;
        readFault = 0;
    }

    // ---- the text, sorts

    public int feed(long v) {
        if (tape.size + 8 > Tape.ROOM) {
            return FULL;
        }
        for (int shift = 56; shift >= 0; shift -= 8) {
            tape.bytes[tape.size] = (byte) (v >>> shift);
            tape.size++;
        }
        return tape.size;
    }

    public int end(int n) {
        if (!isWithin(n, 0, tape.size)) {
            return BAD;
        }
        int had = tape.size;
        tape.size = n;
        return had;
    }

    public int text() {
        spare.clear();
        reader.readInto(spare);
        tape.size = 0;
        textFault = reader.fault;
        if (textFault != 0) {
            return -10 - reader.faultPlace;
        }
        Stock old = held;
        held = spare;
        spare = old;
        return reader.lines;
    }

    public int fault() {
        return textFault;
    }

    public int sort(int many, int has, int would) {
        if (!isSortAsTold(many, has, would, 0)) {
            return BAD;
        }
        if (held.size >= SORTS) {
            return FULL;
        }
        held.add(many, has, would, 0);
        return held.size - 1;
    }

    public int set(int s, int what, int v) {
        if (!isSort(s) || !isWithin(what, MANY, MUST) || !held.allows(s, what, v)) {
            return BAD;
        }
        int[] row = held.row(what);
        int was = row[s];
        row[s] = v;
        return was;
    }

    public int of(int s, int what) {
        if (!isSort(s) || !isWithin(what, MANY, GOOD)) {
            return BAD;
        }
        if (what == GOOD) {
            return held.isGood(s) ? 1 : 0;
        }
        return held.row(what)[s];
    }

    public int rule(int what) {
        switch (what) {
            case 0: return held.mark;
            case 1: return held.look;
            case 2: return held.pay;
            case 3: return held.keen;
            default: return BAD;
        }
    }

    // ---- offers

    public int comes(int kind, int w, int p, int what) {
        if (!isOffer(kind, w) || !isPrice(p) || !isWithin(what, 0, 2)) {
            return BAD;
        }
        trade.make(held, kind, w, p);
        if (what == 0) {
            return trade.whole;
        }
        return what == 1 ? trade.horses : trade.parts;
    }

    public int sold(int kind, int w, int p, int s) {
        if (!isOffer(kind, w) || !isPrice(p) || !isSort(s)) {
            return BAD;
        }
        trade.make(held, kind, w, p);
        return trade.partsOf[s];
    }

    public int thought(int kind, int w, int p, int what) {
        if (!isOffer(kind, w) || !isPrice(p) || !isWithin(what, 0, 1)) {
            return FAR_BAD;
        }
        trade.make(held, kind, w, p);
        if (trade.parts <= 0) {
            return FAR_NONE;
        }
        int divisor = greatestDivisor(Math.abs(trade.tenths), trade.shares());
        return (what == 0 ? trade.tenths : trade.shares()) / divisor;
    }

    public int rests(int kind, int w, int what) {
        if (!isOffer(kind, w) || !isWithin(what, 0, 3)) {
            return BAD;
        }
        int number = 0;
        int least = NONE;
        int greatest = NONE;
        int fullest = NONE;
        int mostParts = 0;
        for (int p = 0; p < PRICES; p++) {
            trade.make(held, kind, w, p);
            if (trade.holdsAt(p)) {
                number++;
                least = least == NONE ? p : least;
                greatest = p;
                fullest = trade.parts > mostParts ? p : fullest;
                mostParts = Math.max(mostParts, trade.parts);
            }
        }
        switch (what) {
            case 0: return number;
            case 1: return least;
            case 2: return greatest;
            default: return fullest;
        }
    }

    public int fall(int kind, int w, int p, int what) {
        boolean asked = isWithin(what, 0, 1) || isWithin(what, 10, 99);
        if (!isOffer(kind, w) || !isPrice(p) || !asked) {
            return BAD;
        }
        int price = p;
        int steps = 0;
        // A step always goes down, so 100 prices leave room for 99 steps and the look that finds the end.
        for (int round = 0; round < PRICES; round++) {
            if (what == 10 + steps) {
                return price;
            }
            trade.make(held, kind, w, price);
            int next = trade.priceBehind(price);
            if (next == price) {
                break;
            }
            price = next;
            steps++;
        }
        if (what == 0) {
            return trade.holdsAt(price) ? price : NONE;
        }
        return what == 1 ? steps : NONE;
    }

    public int gain(int kind, int w, int p) {
        if (!isOffer(kind, w) || !isPrice(p)) {
            return FAR_BAD;
        }
        return gainAt(held, kind, w, p);
    }

    public int lost(int kind, int w, int p) {
        if (!isOffer(kind, w) || !isPrice(p)) {
            return BAD;
        }
        trade.make(held, kind, w, p);
        return trade.lost;
    }

    public int best(int kind, int w, int what) {
        if (!isOffer(kind, w) || !isWithin(what, 0, 1)) {
            return FAR_BAD;
        }
        int price = bestPrice(held, kind, w);
        if (price == NONE) {
            return FAR_NONE;
        }
        return what == 0 ? price : gainAt(held, kind, w, price);
    }

    public int all() {
        int sum = 0;
        for (int s = 0; s < held.size; s++) {
            sum += HORSE * held.many[s] * Math.max(0, held.surplus(s));
        }
        return sum;
    }

    // ---- what mends it

    public int part(int f, int what) {
        if (!isWithin(f, 0, 9) || !isWithin(what, 0, 1)) {
            return BAD;
        }
        int wanted = held.failingAtMost(f);
        if (wanted == 0) {
            return NONE;
        }
        for (int w = 0; w < 100; w++) {
            // While just these come whole THOUGHT is the same, so that the least such price RESTS if one does.
            int price = held.leastForWarrant(wanted, w);
            if (price < PRICES) {
                trade.make(held, WARRANT, w, price);
                if (trade.whole == wanted && trade.holdsAt(price)) {
                    return what == 0 ? w : price;
                }
            }
        }
        return NONE;
    }

    public int sharp() {
        int wanted = held.goodOnes();
        if (wanted == 0) {
            return NONE;
        }
        spare.copy(held);
        for (int look = 4; look <= 8; look++) {
            spare.look = look;
            for (int p = 0; p < PRICES; p++) {
                trade.make(spare, LOOKED, 0, p);
                if (trade.bringsAll(wanted) && trade.holdsAt(p)) {
                    return look;
                }
            }
        }
        return NONE;
    }

    public int days(int what) {
        if (!isWithin(what, 0, 1)) {
            return FAR_BAD;
        }
        int bestW = FAR_NONE;
        int most = FAR_NONE;
        for (int w = 0; w <= 10; w++) {
            int price = bestPrice(held, BACK, w);
            if (price != NONE) {
                int gained = gainAt(held, BACK, w, price);
                if (gained > most) {
                    bestW = w;
                    most = gained;
                }
            }
        }
        return what == 0 ? bestW : most;
    }

    public int keep(int g, int d) {
        if (!isWithin(g, 1, 99) || !isWithin(d, 0, 999)) {
            return BAD;
        }
        return fewestSteps(d, g);
    }

    public int edge(int s) {
        if (!isSort(s)) {
            return BAD;
        }
        spare.copy(held);
        spare.would[s] = 0;
        int least = NEVER;
        for (int p = Math.max(1, held.has[s]); p < PRICES; p++) {
            trade.make(spare, PLAIN, 0, p);
            least = Math.min(least, fewestSteps(trade.lackAt(p), 10 * trade.partsOf[s]));
        }
        return least > 99 ? NONE : least;
    }

    public int spur(int s) {
        if (!isSort(s)) {
            return BAD;
        }
        int wanted = held.worthTrading();
        if (wanted == 0) {
            return NONE;
        }
        spare.copy(held);
        spare.must[s] = 0;
        int least = NEVER;
        for (int p = 0; p < PRICES; p++) {
            trade.make(spare, PLAIN, 0, p);
            if (trade.bringsAll(wanted)) {
                // One that MUST adds its WOULD to what is thought, and p to what is asked; whole, it adds nothing.
                int each = trade.bringsAll(1 << s) ? 0 : 10 * HORSE * (spare.would[s] - p);
                least = Math.min(least, fewestSteps(trade.lackAt(p), each));
            }
        }
        return least > held.many[s] ? NONE : least;
    }

    public int laws(int bits, int w, int what) {
        if (!goTogether(bits) || !isWithin(w, 0, 99) || !isWithin(what, 0, 1)) {
            return FAR_BAD;
        }
        if (what == 0) {
            return outcome(bits, w);
        }
        int price = bestPrice(leftBy(bits), offerOf(bits), w);
        return price == NONE ? FAR_NONE : price;
    }

    public int bestLaws(int w, int what) {
        if (!isWithin(w, 0, 99) || !isWithin(what, 0, 1)) {
            return FAR_BAD;
        }
        int bestBits = 0;
        int most = outcome(0, w);
        for (int bits = 1; bits < 16; bits++) {
            if (goTogether(bits)) {
                int left = outcome(bits, w);
                if (left > most) {
                    bestBits = bits;
                    most = left;
                }
            }
        }
        return what == 0 ? bestBits : most;
    }

    public int learn(int p, int n, int what) {
        if (!isPrice(p) || !isWithin(n, 0, 99) || !isWithin(what, 0, 1)) {
            return BAD;
        }
        int price = p;
        for (int round = 0; round <= 99; round++) {
            if (what == 0 && round == n) {
                return price;
            }
            int next = priceLearned(price);
            if (what == 1 && next == price) {
                return round;
            }
            price = next;
        }
        return NONE;
    }

    // ---- sheets

    public int sheet(int k, int lane, int n) {
        if (!isWithin(k, 0, SHEETS - 1) || !isWithin(lane, 0, LANES - 1) || n > MOST_CELLS) {
            return BAD;
        }
        if (n < 0) {
            return -10 - SIZE;
        }
        sheets[k].renew(lane, n);
        return 1;
    }

    public int lay(int k, int i, int v) {
        if (!isWithin(k, 0, SHEETS - 1)) {
            return BAD;
        }
        Sheet row = sheets[k];
        int found = row.faultAt(row.lane, i, 1);
        if (found != 0) {
            return -10 - found;
        }
        row.cells[i] = row.lowestBits(v);
        return 1;
    }

    public int read(int k, int lane, int f, int n) {
        if (!isWithin(k, 0, SHEETS - 1) || !isWithin(lane, 0, LANES - 1) || !isWithin(n, 0, SORTS)) {
            return BAD;
        }
        Sheet row = sheets[k];
        int whole = 0;
        int found = 0;
        for (int i = 0; i < n && found == 0; i++) {
            int from = f + CELLS_OF_SORT * i;
            found = row.faultAt(lane, from, CELLS_OF_SORT);
            if (found == 0) {
                if (!row.tellsSortAt(from)) {
                    return -20 - i;
                }
                if (held.size + i >= SORTS) {
                    return FULL;
                }
                whole++;
            }
        }
        for (int i = 0; i < whole; i++) {
            row.addSortAt(f + CELLS_OF_SORT * i, held);
        }
        readFault = found;
        return whole;
    }

    public int torn() {
        return readFault;
    }

    public int count(int what) {
        switch (what) {
            case 0: return held.size;
            case 1: return held.sumOf(MANY);
            case 2: return held.sumOf(MUST);
            case 3: return Integer.bitCount(held.goodOnes());
            case 4: return tape.size;
            case 5: return sheets[0].size < 0 ? NONE : sheets[0].size;
            default: return BAD;
        }
    }

    // ---- what the calls share

    private static boolean isWithin(int v, int least, int most) {
        return v >= least && v <= most;
    }

    private static boolean isSortAsTold(int many, int has, int would, int fail) {
        return isWithin(many, 1, 50) && isWithin(has, 0, 99) && isWithin(would, 0, 99) && isWithin(fail, 0, 10);
    }

    private static boolean isOffer(int kind, int w) {
        return isWithin(kind, PLAIN, HEAP) && isWithin(w, 0, kind == BACK ? 10 : 99);
    }

    private static boolean isPrice(int p) {
        return isWithin(p, 0, PRICES - 1);
    }

    private boolean isSort(int s) {
        return isWithin(s, 0, held.size - 1);
    }

    /** How many steps of each make up for a lack. */
    private static int fewestSteps(int lack, int each) {
        if (lack <= 0) {
            return 0;
        }
        return each <= 0 ? NEVER : (lack + each - 1) / each;
    }

    private static int greatestDivisor(int a, int b) {
        int greater = a;
        int less = b;
        // Two steps halve it at least, so that 64 are enough for every int.
        for (int step = 0; step < 64 && less > 0; step++) {
            int rest = greater % less;
            greater = less;
            less = rest;
        }
        return Math.max(1, greater);
    }

    private int gainAt(Stock stock, int kind, int w, int p) {
        trade.make(stock, kind, w, p);
        return trade.gained;
    }

    private int bestPrice(Stock stock, int kind, int w) {
        int price = NONE;
        int most = 0;
        for (int p = 0; p < PRICES; p++) {
            trade.make(stock, kind, w, p);
            if (trade.holdsAt(p) && (price == NONE || trade.gained > most)) {
                price = p;
                most = trade.gained;
            }
        }
        return price;
    }

    private boolean goTogether(int bits) {
        boolean oneOffer = Integer.bitCount(bits & (LAW_WARRANT | LAW_LOOKED | LAW_HEAP)) <= 1;
        boolean somethingToBuy = (bits & LAW_BUY_OUT) == 0 || held.size > 0;
        return isWithin(bits, 0, 15) && oneOffer && somethingToBuy;
    }

    private static int offerOf(int bits) {
        if ((bits & LAW_WARRANT) != 0) {
            return WARRANT;
        }
        if ((bits & LAW_LOOKED) != 0) {
            return LOOKED;
        }
        return (bits & LAW_HEAP) != 0 ? HEAP : PLAIN;
    }

    private Stock leftBy(int bits) {
        if ((bits & LAW_BUY_OUT) == 0) {
            return held;
        }
        spare.copy(held);
        spare.remove(held.worst());
        return spare;
    }

    private int outcome(int bits, int w) {
        Stock left = leftBy(bits);
        int kind = offerOf(bits);
        int price = bestPrice(left, kind, w);
        int gained = price == NONE ? 0 : gainAt(left, kind, w, price);
        if ((bits & LAW_BUY_OUT) == 0) {
            return gained;
        }
        int gone = held.worst();
        return gained - HORSE * held.many[gone] * held.has[gone];
    }

    private int priceLearned(int p) {
        trade.make(held, PLAIN, 0, p);
        return Math.floorDiv(held.keen * trade.thoughtDown() + (10 - held.keen) * p, 10);
    }

    /** SORTS and the rules that hold for them. */
    private static final class Stock {
        final int[] many = new int[SORTS];
        final int[] has = new int[SORTS];
        final int[] would = new int[SORTS];
        final int[] fail = new int[SORTS];
        final int[] must = new int[SORTS];
        int size;
        int mark;
        int look;
        int pay;
        int keen;

        void clear() {
            size = 0;
            mark = 50;
            look = 6;
            pay = 1;
            keen = 5;
        }

        int[] row(int what) {
            switch (what) {
                case MANY: return many;
                case HAS: return has;
                case WOULD: return would;
                case FAIL: return fail;
                default: return must;
            }
        }

        void copy(Stock other) {
            for (int what = MANY; what <= MUST; what++) {
                System.arraycopy(other.row(what), 0, row(what), 0, SORTS);
            }
            size = other.size;
            mark = other.mark;
            look = other.look;
            pay = other.pay;
            keen = other.keen;
        }

        void add(int newMany, int newHas, int newWould, int newFail) {
            if (size < SORTS) {
                many[size] = newMany;
                has[size] = newHas;
                would[size] = newWould;
                fail[size] = newFail;
                must[size] = 0;
                size++;
            }
        }

        void remove(int s) {
            if (isWithin(s, 0, size - 1)) {
                for (int what = MANY; what <= MUST; what++) {
                    int[] row = row(what);
                    System.arraycopy(row, s + 1, row, s, size - s - 1);
                }
                size--;
            }
        }

        boolean allows(int s, int what, int v) {
            switch (what) {
                case MANY: return isWithin(v, Math.max(1, must[s]), 50);
                case HAS: return isWithin(v, 0, 99);
                case WOULD: return isWithin(v, 0, 99);
                case FAIL: return isWithin(v, 0, 10);
                default: return isWithin(v, 0, many[s]);
            }
        }

        int surplus(int s) {
            return would[s] - has[s];
        }

        boolean isGood(int s) {
            return would[s] >= mark;
        }

        int sumOf(int what) {
            int[] row = row(what);
            int sum = 0;
            for (int s = 0; s < size; s++) {
                sum += row[s];
            }
            return sum;
        }

        int goodOnes() {
            int bits = 0;
            for (int s = 0; s < size; s++) {
                bits |= isGood(s) ? 1 << s : 0;
            }
            return bits;
        }

        int worthTrading() {
            int bits = 0;
            for (int s = 0; s < size; s++) {
                bits |= surplus(s) > 0 ? 1 << s : 0;
            }
            return bits;
        }

        int failingAtMost(int f) {
            int bits = 0;
            for (int s = 0; s < size; s++) {
                bits |= fail[s] <= f ? 1 << s : 0;
            }
            return bits;
        }

        /** What a seller by WARRANT must be paid, in tenths. */
        int tenthsForWarrant(int s, int w) {
            return 10 * has[s] + fail[s] * w;
        }

        /** The least price at which all these come whole by WARRANT. */
        int leastForWarrant(int wanted, int w) {
            int least = 0;
            for (int s = 0; s < size; s++) {
                if ((wanted >> s & 1) != 0) {
                    least = Math.max(least, (tenthsForWarrant(s, w) + 9) / 10);
                }
            }
            return least;
        }

        boolean comesAsHeap(int p) {
            int over = 0;
            for (int s = 0; s < size; s++) {
                over += many[s] * (has[s] - p);
            }
            return over <= 0;
        }

        /** The SORT of the least WOULD, of several the first. */
        int worst() {
            int least = 0;
            for (int s = 1; s < size; s++) {
                least = would[s] < would[least] ? s : least;
            }
            return least;
        }
    }

    /** What comes of an OFFER at a price; THOUGHT is tenths by shares(), so that WARRANT stays whole. */
    private static final class Trade {
        final int[] partsOf = new int[SORTS];
        int whole;
        int horses;
        int parts;
        int tenths;
        int gained;
        int lost;

        void make(Stock stock, int kind, int w, int p) {
            whole = 0;
            horses = 0;
            parts = 0;
            tenths = 0;
            gained = 0;
            lost = 0;
            boolean heapComes = kind == HEAP && stock.comesAsHeap(p);
            for (int s = 0; s < stock.size; s++) {
                boolean comesWhole = kind == HEAP ? heapComes : isWhole(stock, s, kind, w, p);
                whole |= comesWhole ? 1 << s : 0;
                int those = kind == HEAP ? 0 : stock.must[s];
                int come = comesWhole ? stock.many[s] : those;
                horses += come;
                partsOf[s] = come * partsOfOne(stock, s, kind, w);
                sum(stock, s, kind == WARRANT ? w : 0);
            }
            if (kind == LOOKED) {
                tenths -= 10 * HORSE * stock.pay * horses;
                gained -= HORSE * stock.pay * horses;
            }
        }

        private static boolean isWhole(Stock stock, int s, int kind, int w, int p) {
            if (kind == WARRANT) {
                return stock.tenthsForWarrant(s, w) <= 10 * p;
            }
            boolean alwaysGivenBack = kind == BACK && stock.fail[s] * w == 100;
            return stock.has[s] <= p || alwaysGivenBack;
        }

        private static int partsOfOne(Stock stock, int s, int kind, int w) {
            if (kind == LOOKED) {
                return 100 * (stock.isGood(s) ? stock.look : 8 - stock.look);
            }
            return kind == BACK ? 8 * (100 - stock.fail[s] * w) : HORSE;
        }

        private void sum(Stock stock, int s, int warranted) {
            int sale = partsOf[s];
            int surplus = stock.surplus(s);
            parts += sale;
            tenths += sale * (10 * stock.would[s] + stock.fail[s] * warranted);
            gained += sale * surplus;
            lost += (HORSE * stock.many[s] - sale) * Math.max(0, surplus);
        }

        int shares() {
            return 10 * parts;
        }

        /** How much, in tenths, what is thought of all that are SOLD is below the price of all. */
        int lackAt(int p) {
            return p * shares() - tenths;
        }

        boolean holdsAt(int p) {
            return parts > 0 && lackAt(p) <= 0;
        }

        boolean bringsAll(int wanted) {
            return (whole & wanted) == wanted;
        }

        /** THOUGHT divided down; 0, if nothing is SOLD. */
        int thoughtDown() {
            return parts > 0 ? Math.floorDiv(tenths, shares()) : 0;
        }

        /** The price behind a step of FALL; p itself, where FALL ends. */
        int priceBehind(int p) {
            if (parts <= 0 || holdsAt(p)) {
                return p;
            }
            return Math.max(0, thoughtDown());
        }
    }

    /** THE TAPE. */
    private static final class Tape {
        static final int ROOM = 240;

        final byte[] bytes = new byte[ROOM];
        int size;
    }

    /** Reads THE TAPE; from the first FAULT on nothing more is read. */
    private static final class Reader {
        private static final int NO_TOKEN = 1, NOT_THERE = 2, OUT_OF_BOUNDS = 3, AGAIN = 4, NINTH = 5;
        private static final int AT_END = 0, NAME = 1, NUMBER = 2, STOP = 3;

        // A NAME is known by its four letters as one number.
        private static final int SORT_NAME = 's' << 24 | 'o' << 16 | 'r' << 8 | 't';
        private static final int FAIL_NAME = 'f' << 24 | 'a' << 16 | 'i' << 8 | 'l';
        private static final int MUST_NAME = 'm' << 24 | 'u' << 16 | 's' << 8 | 't';
        private static final int MARK_NAME = 'm' << 24 | 'a' << 16 | 'r' << 8 | 'k';
        private static final int LOOK_NAME = 'l' << 24 | 'o' << 16 | 'o' << 8 | 'k';
        private static final int KEEN_NAME = 'k' << 24 | 'e' << 16 | 'e' << 8 | 'n';

        // Bits of what may be told once: FAIL of SORTS, MUST of SORTS, then the rules.
        private static final int FIRST_FAIL = 0, FIRST_MUST = 8, MARK_BIT = 16, LOOK_BIT = 17, KEEN_BIT = 18;

        final Tape tape;
        int fault;
        int faultPlace;
        int lines;
        private int place;
        private int told;
        private int token;
        private int tokenPlace;
        private int value;

        Reader(Tape tape) {
            this.tape = tape;
        }

        void readInto(Stock stock) {
            fault = 0;
            faultPlace = 0;
            lines = 0;
            place = 0;
            told = 0;
            readToken();
            // Every line takes a byte at least.
            for (int round = 0; round < Tape.ROOM && fault == 0 && token != AT_END; round++) {
                takeLine(stock);
                lines++;
                if (fault == 0) {
                    readToken();
                }
            }
        }

        private void takeLine(Stock stock) {
            if (token != NAME) {
                refuse(NOT_THERE);
                return;
            }
            switch (value) {
                case SORT_NAME:
                    takeSort(stock);
                    break;
                case FAIL_NAME:
                    takeFail(stock);
                    break;
                case MUST_NAME:
                    takeMust(stock);
                    break;
                case MARK_NAME:
                    takeMark(stock);
                    break;
                case LOOK_NAME:
                    takeLook(stock);
                    break;
                default:
                    takeKeen(stock);
                    break;
            }
            takeStop();
        }

        private void takeSort(Stock stock) {
            if (stock.size >= SORTS) {
                refuse(NINTH);
            }
            int many = takeNumber(1, 50);
            int has = takeNumber(0, 99);
            int would = takeNumber(0, 99);
            stock.add(many, has, would, 0);
        }

        private void takeFail(Stock stock) {
            int s = takeNumber(0, stock.size - 1);
            tellOnce(FIRST_FAIL + s);
            stock.fail[s] = takeNumber(0, 10);
        }

        private void takeMust(Stock stock) {
            int s = takeNumber(0, stock.size - 1);
            tellOnce(FIRST_MUST + s);
            stock.must[s] = takeNumber(0, stock.many[s]);
        }

        private void takeMark(Stock stock) {
            tellOnce(MARK_BIT);
            stock.mark = takeNumber(0, 99);
        }

        private void takeLook(Stock stock) {
            tellOnce(LOOK_BIT);
            stock.look = takeNumber(4, 8);
            stock.pay = takeNumber(0, 20);
        }

        private void takeKeen(Stock stock) {
            tellOnce(KEEN_BIT);
            stock.keen = takeNumber(1, 10);
        }

        /** Takes a NUMBER; behind a FAULT 0: a place in every row, and kept by nobody, for the text is not taken. */
        private int takeNumber(int least, int most) {
            if (fault == 0) {
                readToken();
            }
            if (fault == 0 && token != NUMBER) {
                refuse(NOT_THERE);
            }
            if (fault == 0 && !isWithin(value, least, most)) {
                refuse(OUT_OF_BOUNDS);
            }
            return fault == 0 ? value : 0;
        }

        private void takeStop() {
            if (fault == 0) {
                readToken();
            }
            if (fault == 0 && token != STOP) {
                refuse(NOT_THERE);
            }
        }

        private void tellOnce(int bit) {
            if (fault == 0 && (told >> bit & 1) != 0) {
                refuse(AGAIN);
            }
            told |= 1 << bit;
        }

        private void refuse(int found) {
            fault = found;
            faultPlace = tokenPlace;
        }

        private void readToken() {
            place = endOfRun(place, ' ', ' ');
            tokenPlace = place;
            if (place >= tape.size) {
                token = AT_END;
                return;
            }
            int first = tape.bytes[place];
            boolean isToken = true;
            if (isWithin(first, 'a', 'z')) {
                token = NAME;
                place = endOfRun(place, 'a', 'z');
                value = nameAtHand();
                isToken = isKnown(value);
            } else if (isWithin(first, '0', '9')) {
                token = NUMBER;
                place = endOfRun(place, '0', '9');
                value = numberAtHand();
                isToken = place - tokenPlace <= 2;
            } else {
                token = STOP;
                place++;
                isToken = first == ';';
            }
            if (!isToken) {
                refuse(NO_TOKEN);
            }
        }

        /** The NAME as a number; 0, which is none, if it has not four letters and would not fit. */
        private int nameAtHand() {
            if (place - tokenPlace != 4) {
                return 0;
            }
            int name = 0;
            for (int i = tokenPlace; i < place; i++) {
                name = name << 8 | tape.bytes[i];
            }
            return name;
        }

        private int numberAtHand() {
            int number = 0;
            for (int i = tokenPlace; i < place; i++) {
                number = 10 * number + tape.bytes[i] - '0';
            }
            return number;
        }

        private static boolean isKnown(int name) {
            switch (name) {
                case SORT_NAME:
                case FAIL_NAME:
                case MUST_NAME:
                case MARK_NAME:
                case LOOK_NAME:
                case KEEN_NAME:
                    return true;
                default:
                    return false;
            }
        }

        /** The first place from here on whose byte is not one of these. */
        private int endOfRun(int from, int least, int most) {
            int at = from;
            while (at < tape.size && tape.bytes[at] >= least && tape.bytes[at] <= most) {
                at++;
            }
            return at;
        }
    }

    /** A SHEET: whatever its lane, its CELLS are held as ints that fit the lane. */
    private static final class Sheet {
        private static final int BYTES = 0, SHORTS = 1;

        final int[] cells = new int[MOST_CELLS];
        int size = -1;
        int lane;

        void renew(int newLane, int n) {
            lane = newLane;
            size = n;
            for (int i = 0; i < MOST_CELLS; i++) {
                cells[i] = 0;
            }
        }

        int lowestBits(int v) {
            if (lane == BYTES) {
                return (byte) v;
            }
            return lane == SHORTS ? (short) v : v;
        }

        /** The FAULT of taking n CELLS from one on as of a lane; 0. */
        int faultAt(int asLane, int from, int n) {
            if (size < 0) {
                return NULL;
            }
            if (asLane != lane) {
                return CAST;
            }
            return isWithin(from, 0, size - n) ? 0 : INDEX;
        }

        boolean tellsSortAt(int from) {
            return isSortAsTold(cells[from], cells[from + 1], cells[from + 2], cells[from + 3]);
        }

        void addSortAt(int from, Stock stock) {
            stock.add(cells[from], cells[from + 1], cells[from + 2], cells[from + 3]);
        }
    }
}
