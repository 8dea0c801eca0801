import java.util.ArrayList;
import java.util.List;
import java.util.TreeSet;
import java.util.function.IntPredicate;
import java.util.regex.Matcher;
import java.util.regex.Pattern;

/** The document said again by trying everything out: slow, and in no way built as LemonMarket is. */
final class PlainMarket {
    static final int BAD = -1, FULL = -3, NONE = -4, FAR_BAD = -1000000000, FAR_NONE = -1000000004;

    static final class Sort {
        int many, has, would, fail, must;

        Sort(int many, int has, int would, int fail) {
            this.many = many;
            this.has = has;
            this.would = would;
            this.fail = fail;
        }
    }

    private static final class Fault extends RuntimeException {
        private static final long serialVersionUID = 1;
        final int number, place;

        Fault(int number, int place) {
            this.number = number;
            this.place = place;
        }
    }

    private StringBuilder tape = new StringBuilder();
    private List<Sort> sorts = new ArrayList<>();
    private int mark = 50, look = 6, pay = 1, keen = 5;
    private int textFault, torn;
    private final Object[] sheets = new Object[4];

    // ---- the text

    int feed(long v) {
        if (tape.length() > 232) return FULL;
        for (int i = 7; i >= 0; i--) tape.append((char) ((v >> (8 * i)) & 255));
        return tape.length();
    }

    int end(int n) {
        if (n < 0 || n > tape.length()) return BAD;
        int had = tape.length();
        tape.setLength(n);
        return had;
    }

    private static final Pattern TOKEN = Pattern.compile("(sort|fail|must|mark|look|keen)(?![a-z])|([0-9]{1,2})(?![0-9])|(;)");

    private String text;
    private int at, tokenAt;

    private String token() {
        while (at < text.length() && text.charAt(at) == ' ') at++;
        tokenAt = at;
        if (at == text.length()) return "";
        Matcher m = TOKEN.matcher(text);
        m.region(at, text.length());
        m.useTransparentBounds(true);
        if (!m.lookingAt()) throw new Fault(1, at);
        at = m.end();
        return m.group();
    }

    private int number(int least, int most) {
        String t = token();
        if (t.isEmpty() || !Character.isDigit(t.charAt(0))) throw new Fault(2, tokenAt);
        int v = Integer.parseInt(t);
        if (v < least || v > most) throw new Fault(3, tokenAt);
        return v;
    }

    int text() {
        text = tape.toString();
        at = 0;
        tape.setLength(0);
        List<Sort> was = sorts;
        int wasMark = mark, wasLook = look, wasPay = pay, wasKeen = keen;
        sorts = new ArrayList<>();
        mark = 50;
        look = 6;
        pay = 1;
        keen = 5;
        TreeSet<String> told = new TreeSet<>();
        int lines = 0;
        try {
            for (String name = token(); !name.isEmpty(); name = token()) {
                line(name, told);
                if (!token().equals(";")) throw new Fault(2, tokenAt);
                lines++;
            }
            textFault = 0;
            return lines;
        } catch (Fault f) {
            textFault = f.number;
            sorts = was;
            mark = wasMark;
            look = wasLook;
            pay = wasPay;
            keen = wasKeen;
            return -10 - f.place;
        }
    }

    private void line(String name, TreeSet<String> told) {
        int nameAt = tokenAt;
        if (name.equals("sort")) {
            if (sorts.size() == 8) throw new Fault(5, nameAt);
            sorts.add(new Sort(number(1, 50), number(0, 99), number(0, 99), 0));
        } else if (name.equals("fail") || name.equals("must")) {
            int s = number(0, sorts.size() - 1);
            if (!told.add(name + s)) throw new Fault(4, tokenAt);
            if (name.equals("fail")) sorts.get(s).fail = number(0, 10);
            else sorts.get(s).must = number(0, sorts.get(s).many);
        } else if (Character.isLetter(name.charAt(0))) {
            if (!told.add(name)) throw new Fault(4, nameAt);
            if (name.equals("mark")) mark = number(0, 99);
            else if (name.equals("keen")) keen = number(1, 10);
            else {
                look = number(4, 8);
                pay = number(0, 20);
            }
        } else {
            throw new Fault(2, nameAt);
        }
    }

    int fault() {
        return textFault;
    }

    // ---- sorts

    private static boolean in(int v, int least, int most) {
        return least <= v && v <= most;
    }

    private boolean isSort(int s) {
        return in(s, 0, sorts.size() - 1);
    }

    int sort(int many, int has, int would) {
        if (!in(many, 1, 50) || !in(has, 0, 99) || !in(would, 0, 99)) return BAD;
        if (sorts.size() == 8) return FULL;
        sorts.add(new Sort(many, has, would, 0));
        return sorts.size() - 1;
    }

    int set(int s, int what, int v) {
        int was = what == 5 ? BAD : of(s, what);
        if (was == BAD) return BAD;
        Sort x = sorts.get(s);
        if (what == 0 && in(v, 1, 50) && v >= x.must) x.many = v;
        else if (what == 1 && in(v, 0, 99)) x.has = v;
        else if (what == 2 && in(v, 0, 99)) x.would = v;
        else if (what == 3 && in(v, 0, 10)) x.fail = v;
        else if (what == 4 && in(v, 0, x.many)) x.must = v;
        else return BAD;
        return was;
    }

    int of(int s, int what) {
        if (!isSort(s) || !in(what, 0, 5)) return BAD;
        Sort x = sorts.get(s);
        return new int[] {x.many, x.has, x.would, x.fail, x.must, x.would >= mark ? 1 : 0}[what];
    }

    int rule(int what) {
        return in(what, 0, 3) ? new int[] {mark, look, pay, keen}[what] : BAD;
    }

    // ---- offers

    private static boolean isOffer(int kind, int w) {
        return in(kind, 0, 4) && in(w, 0, 99) && (kind != 3 || w <= 10);
    }

    private boolean whole(int kind, int w, int p, Sort x) {
        if (kind == 4) {
            long horses = 0, sum = 0;
            for (Sort y : sorts) {
                horses += y.many;
                sum += (long) y.many * y.has;
            }
            return sum <= p * horses;
        }
        if (kind == 1) return x.has * 10L + (long) x.fail * w <= 10L * p;
        if (kind == 3 && x.fail * w == 100) return true;
        return x.has <= p;
    }

    private int come(int kind, int w, int p, Sort x) {
        return whole(kind, w, p, x) ? x.many : kind == 4 ? 0 : x.must;
    }

    private int bits(int kind, int w, int p) {
        int bits = 0;
        for (int s = 0; s < sorts.size(); s++) if (whole(kind, w, p, sorts.get(s))) bits += 1 << s;
        return bits;
    }

    private int horses(int kind, int w, int p) {
        return sorts.stream().mapToInt(x -> come(kind, w, p, x)).sum();
    }

    private int parts(int kind, int w, int p, Sort x) {
        int come = come(kind, w, p, x);
        if (kind == 2) return come * (x.would >= mark ? 100 * look : 100 * (8 - look));
        if (kind == 3) return come * (8 * (100 - x.fail * w));
        return come * 800;
    }

    private int parts(int kind, int w, int p) {
        return sorts.stream().mapToInt(x -> parts(kind, w, p, x)).sum();
    }

    int comes(int kind, int w, int p, int what) {
        if (!isOffer(kind, w) || !in(p, 0, 99) || !in(what, 0, 2)) return BAD;
        return what == 0 ? bits(kind, w, p) : what == 1 ? horses(kind, w, p) : parts(kind, w, p);
    }

    int sold(int kind, int w, int p, int s) {
        if (!isOffer(kind, w) || !in(p, 0, 99) || !isSort(s)) return BAD;
        return parts(kind, w, p, sorts.get(s));
    }

    /** THOUGHT in lowest terms, or null. */
    private long[] think(int kind, int w, int p) {
        long parts = parts(kind, w, p);
        if (parts == 0) return null;
        long sum = 0;
        for (Sort x : sorts) {
            long worth = 10L * x.would + (kind == 1 ? (long) x.fail * w : 0);
            sum += parts(kind, w, p, x) * worth;
        }
        if (kind == 2) sum -= 10L * pay * 800 * horses(kind, w, p);
        long den = 10 * parts;
        for (long d = 2; d <= 1000 && d <= den; d++) {
            while (sum % d == 0 && den % d == 0) {
                sum /= d;
                den /= d;
            }
        }
        long g = java.math.BigInteger.valueOf(sum).gcd(java.math.BigInteger.valueOf(den)).longValue();
        return new long[] {sum / g, den / g};
    }

    int thought(int kind, int w, int p, int what) {
        if (!isOffer(kind, w) || !in(p, 0, 99) || !in(what, 0, 1)) return FAR_BAD;
        long[] t = think(kind, w, p);
        return t == null ? FAR_NONE : (int) t[what];
    }

    private boolean rest(int kind, int w, int p) {
        long parts = parts(kind, w, p);
        if (parts == 0) return false;
        long sum = 0;
        for (Sort x : sorts) sum += parts(kind, w, p, x) * (10L * x.would + (kind == 1 ? (long) x.fail * w : 0));
        if (kind == 2) sum -= 8000L * pay * horses(kind, w, p);
        return sum >= 10L * p * parts;
    }

    private List<Integer> resting(int kind, int w) {
        List<Integer> prices = new ArrayList<>();
        for (int p = 0; p <= 99; p++) if (rest(kind, w, p)) prices.add(p);
        return prices;
    }

    int rests(int kind, int w, int what) {
        if (!isOffer(kind, w) || !in(what, 0, 3)) return BAD;
        List<Integer> prices = resting(kind, w);
        if (what == 0) return prices.size();
        if (prices.isEmpty()) return NONE;
        if (what == 1) return prices.get(0);
        if (what == 2) return prices.get(prices.size() - 1);
        int best = prices.get(0);
        for (int p : prices) if (parts(kind, w, p) > parts(kind, w, best)) best = p;
        return best;
    }

    int fall(int kind, int w, int p, int what) {
        if (!isOffer(kind, w) || !in(p, 0, 99) || what < 0 || what > 99 || in(what, 2, 9)) return BAD;
        List<Integer> path = new ArrayList<>();
        path.add(p);
        boolean ends = false;
        while (true) {
            int now = path.get(path.size() - 1);
            long[] t = think(kind, w, now);
            if (t == null || now == 0 && t[0] < 0) break;
            if (t[0] >= now * t[1]) {
                ends = true;
                break;
            }
            path.add((int) Math.max(0, Math.floorDiv(t[0], t[1])));
        }
        if (what == 0) return ends ? path.get(path.size() - 1) : NONE;
        if (what == 1) return path.size() - 1;
        return what - 10 < path.size() ? path.get(what - 10) : NONE;
    }

    private int gained(int kind, int w, int p) {
        int sum = 0;
        for (Sort x : sorts) sum += parts(kind, w, p, x) * (x.would - x.has);
        return kind == 2 ? sum - 800 * pay * horses(kind, w, p) : sum;
    }

    int gain(int kind, int w, int p) {
        return isOffer(kind, w) && in(p, 0, 99) ? gained(kind, w, p) : FAR_BAD;
    }

    int lost(int kind, int w, int p) {
        if (!isOffer(kind, w) || !in(p, 0, 99)) return BAD;
        int sum = 0;
        for (Sort x : sorts) if (x.would > x.has) sum += (800 * x.many - parts(kind, w, p, x)) * (x.would - x.has);
        return sum;
    }

    private int bestPrice(int kind, int w) {
        int best = NONE;
        for (int p : resting(kind, w)) if (best == NONE || gained(kind, w, p) > gained(kind, w, best)) best = p;
        return best;
    }

    int best(int kind, int w, int what) {
        if (!isOffer(kind, w) || !in(what, 0, 1)) return FAR_BAD;
        int p = bestPrice(kind, w);
        return p == NONE ? FAR_NONE : what == 0 ? p : gained(kind, w, p);
    }

    int all() {
        int sum = 0;
        for (Sort x : sorts) if (x.would > x.has) sum += 800 * x.many * (x.would - x.has);
        return sum;
    }

    // ---- what mends it

    private int bitsOf(IntPredicate which) {
        int bits = 0;
        for (int s = 0; s < sorts.size(); s++) if (which.test(s)) bits |= 1 << s;
        return bits;
    }

    int part(int f, int what) {
        if (!in(f, 0, 9) || !in(what, 0, 1)) return BAD;
        int wanted = bitsOf(s -> sorts.get(s).fail <= f);
        if (wanted == 0) return NONE;
        for (int w = 0; w <= 99; w++)
            for (int p = 0; p <= 99; p++)
                if (bits(1, w, p) == wanted && rest(1, w, p)) return what == 0 ? w : p;
        return NONE;
    }

    int sharp() {
        int wanted = bitsOf(s -> sorts.get(s).would >= mark);
        if (wanted == 0) return NONE;
        int was = look;
        int answer = NONE;
        for (look = 4; look <= 8 && answer == NONE; look++)
            for (int p = 0; p <= 99; p++)
                if ((bits(2, 0, p) & wanted) == wanted && rest(2, 0, p)) answer = look;
        look = was;
        return answer;
    }

    int days(int what) {
        if (!in(what, 0, 1)) return FAR_BAD;
        int bestW = FAR_NONE, most = FAR_NONE;
        for (int w = 10; w >= 0; w--) {
            int p = bestPrice(3, w);
            if (p != NONE && gained(3, w, p) >= most) {
                most = gained(3, w, p);
                bestW = w;
            }
        }
        return what == 0 ? bestW : most;
    }

    int keep(int g, int d) {
        if (!in(g, 1, 99) || !in(d, 0, 999)) return BAD;
        int years = 0;
        while (g * years < d) years++;
        return years;
    }

    int edge(int s) {
        if (!isSort(s)) return BAD;
        Sort x = sorts.get(s);
        int was = x.would;
        int answer = NONE;
        for (int v = 0; v <= 99 && answer == NONE; v++) {
            x.would = v;
            for (int p = 1; p <= 99; p++) if (whole(0, 0, p, x) && rest(0, 0, p)) answer = v;
        }
        x.would = was;
        return answer;
    }

    int spur(int s) {
        if (!isSort(s)) return BAD;
        int wanted = bitsOf(i -> sorts.get(i).would > sorts.get(i).has);
        if (wanted == 0) return NONE;
        Sort x = sorts.get(s);
        int was = x.must;
        int answer = NONE;
        for (int m = 0; m <= x.many && answer == NONE; m++) {
            x.must = m;
            for (int p = 0; p <= 99; p++) if ((bits(0, 0, p) & wanted) == wanted && rest(0, 0, p)) answer = m;
        }
        x.must = was;
        return answer;
    }

    /** The OUTCOME and the price; null, if these LAWS can not be. */
    private int[] outcome(int bits, int w) {
        if (!List.of(0, 1, 2, 4, 5, 6, 8, 12).contains(bits) || (bits & 4) != 0 && sorts.isEmpty()) return null;
        List<Sort> was = sorts;
        int cost = 0;
        if ((bits & 4) != 0) {
            Sort gone = sorts.stream().min((a, b) -> a.would - b.would).get();
            cost = 800 * gone.many * gone.has;
            sorts = new ArrayList<>(sorts);
            sorts.removeIf(x -> x == gone);
        }
        int kind = (bits & 1) != 0 ? 1 : (bits & 2) != 0 ? 2 : (bits & 8) != 0 ? 4 : 0;
        int p = bestPrice(kind, w);
        int[] answer = {(p == NONE ? 0 : gained(kind, w, p)) - cost, p == NONE ? FAR_NONE : p};
        sorts = was;
        return answer;
    }

    int laws(int bits, int w, int what) {
        if (!in(w, 0, 99) || !in(what, 0, 1)) return FAR_BAD;
        int[] answer = outcome(bits, w);
        return answer == null ? FAR_BAD : answer[what];
    }

    int bestLaws(int w, int what) {
        if (!in(w, 0, 99) || !in(what, 0, 1)) return FAR_BAD;
        int best = 0;
        for (int bits = 0; bits < 16; bits++) {
            int[] answer = outcome(bits, w);
            if (answer != null && answer[0] > outcome(best, w)[0]) best = bits;
        }
        return what == 0 ? best : outcome(best, w)[0];
    }

    private int round(int p) {
        long[] t = think(0, 0, p);
        long down = t == null ? 0 : Math.floorDiv(t[0], t[1]);
        return (int) Math.floorDiv(keen * down + (10 - keen) * p, 10L);
    }

    int learn(int p, int n, int what) {
        if (!in(p, 0, 99) || !in(n, 0, 99) || !in(what, 0, 1)) return BAD;
        List<Integer> path = new ArrayList<>(List.of(p));
        for (int i = 0; i < 300; i++) path.add(round(path.get(i)));
        if (what == 0) return path.get(n);
        if (!path.get(299).equals(path.get(300))) return NONE;
        return path.indexOf(path.get(300));
    }

    // ---- sheets: here the machine itself finds the FAULTS

    int sheet(int k, int lane, int n) {
        if (!in(k, 0, 3) || !in(lane, 0, 2) || n > 40) return BAD;
        try {
            sheets[k] = lane == 0 ? (Object) new byte[n] : lane == 1 ? new short[n] : new int[n];
            return 1;
        } catch (NegativeArraySizeException e) {
            return -14;
        }
    }

    int lay(int k, int i, int v) {
        if (!in(k, 0, 3)) return BAD;
        try {
            if (sheets[k] instanceof byte[] b) b[i] = (byte) v;
            else if (sheets[k] instanceof short[] b) b[i] = (short) v;
            else ((int[]) sheets[k])[i] = v;
            return 1;
        } catch (NullPointerException e) {
            return -11;
        } catch (ArrayIndexOutOfBoundsException e) {
            return -12;
        }
    }

    private int cell(int k, int lane, int i) {
        if (lane == 0) return ((byte[]) sheets[k])[i];
        if (lane == 1) return ((short[]) sheets[k])[i];
        return ((int[]) sheets[k])[i];
    }

    int read(int k, int lane, int f, int n) {
        if (!in(k, 0, 3) || !in(lane, 0, 2) || !in(n, 0, 8)) return BAD;
        List<Sort> come = new ArrayList<>();
        int found = 0;
        try {
            for (int i = 0; i < n; i++) {
                int[] c = new int[4];
                for (int j = 0; j < 4; j++) c[j] = cell(k, lane, f + 4 * i + j);
                if (!in(c[0], 1, 50) || !in(c[1], 0, 99) || !in(c[2], 0, 99) || !in(c[3], 0, 10)) return -20 - i;
                if (sorts.size() + come.size() == 8) return FULL;
                come.add(new Sort(c[0], c[1], c[2], c[3]));
            }
        } catch (NullPointerException e) {
            found = 1;
        } catch (ArrayIndexOutOfBoundsException e) {
            found = 2;
        } catch (ClassCastException e) {
            found = 3;
        }
        torn = found;
        sorts.addAll(come);
        return come.size();
    }

    int torn() {
        return torn;
    }

    int count(int what) {
        switch (what) {
            case 0: return sorts.size();
            case 1: return sorts.stream().mapToInt(x -> x.many).sum();
            case 2: return sorts.stream().mapToInt(x -> x.must).sum();
            case 3: return (int) sorts.stream().filter(x -> x.would >= mark).count();
            case 4: return tape.length();
            case 5: return sheets[0] == null ? NONE : java.lang.reflect.Array.getLength(sheets[0]);
            default: return BAD;
        }
    }
}
