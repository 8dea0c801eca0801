import java.util.Random;

/** Runs of calls drawn by fixed seeds: LemonMarket answers as PlainMarket does, which tries everything out. */
public final class AgainstPlainTest {
    private static final int RUNS = 1500, CALLS = 160;

    private final Random random;
    private final LemonMarket x = new LemonMarket();
    private final PlainMarket y = new PlainMarket();
    private final StringBuilder told = new StringBuilder();

    private AgainstPlainTest(long seed) {
        random = new Random(seed);
    }

    public static void main(String[] args) {
        int wrong = 0;
        for (int seed = 0; seed < RUNS; seed++) {
            String first = new AgainstPlainTest(seed).run();
            if (first != null) {
                wrong++;
                if (wrong <= 5) System.out.println("seed " + seed + ": " + first);
            }
        }
        System.out.println("AgainstPlainTest: " + (RUNS - wrong) + " runs are as due, " + wrong + " are not");
        if (wrong != 0) System.exit(1);
    }

    private String run() {
        for (int i = 0; i < CALLS; i++) {
            String wrong = random.nextInt(12) == 0 ? wholeText() : call();
            if (wrong != null) return wrong + "\n   behind .." + told.substring(Math.max(0, told.length() - 600));
        }
        return null;
    }

    private String same(String call, long got, long due) {
        told.append(call).append(' ').append(due).append("; ");
        return got == due ? null : call + " answered " + got + ", due is " + due;
    }

    /** Mostly within the bounds, with the edges often, and now and then far out. */
    private int draw(int least, int most) {
        switch (random.nextInt(24)) {
            case 0: return least - 1;
            case 1: return most + 1;
            case 2: return random.nextInt();
            case 3: case 4: return least;
            case 5: case 6: return most;
            default: return least + random.nextInt(most - least + 1);
        }
    }

    private int few(int least, int most) {
        return random.nextInt(40) == 0 ? draw(least, most) : least + random.nextInt(most - least + 1);
    }

    private String wholeText() {
        String text = text();
        for (int i = 0; i < text.length(); i += 8) {
            long v = 0;
            for (int j = i; j < i + 8; j++) v = v << 8 | (j < text.length() ? text.charAt(j) : 32 + random.nextInt(64));
            String wrong = same("feed(" + v + ")", x.feed(v), y.feed(v));
            if (wrong != null) return wrong;
        }
        if (random.nextInt(8) != 0) {
            String wrong = same("end(" + text.length() + ")", x.end(text.length()), y.end(text.length()));
            if (wrong != null) return wrong;
        }
        String wrong = same("text()", x.text(), y.text());
        return wrong != null ? wrong : same("fault()", x.fault(), y.fault());
    }

    private String text() {
        StringBuilder b = new StringBuilder();
        int sorts = random.nextInt(random.nextInt(8) == 0 ? 11 : 7);
        for (int s = 0; s < sorts; s++) {
            b.append("sort ").append(few(1, 50)).append(' ').append(few(0, 99)).append(' ').append(few(0, 99)).append(';');
            if (random.nextBoolean()) b.append("fail ").append(few(0, s)).append(' ').append(few(0, 10)).append("; ");
            if (random.nextInt(3) == 0) b.append("must ").append(s).append(' ').append(few(0, 9)).append(';');
        }
        if (random.nextBoolean()) b.append(" mark ").append(few(0, 99)).append(" ;");
        if (random.nextBoolean()) b.append("look").append(few(4, 8)).append(' ').append(few(0, 20)).append(';');
        if (random.nextBoolean()) b.append("keen ").append(few(1, 10)).append(';');
        if (random.nextInt(2) == 0 && b.length() > 0) spoil(b);
        if (b.length() > 240) b.setLength(240);
        return b.toString();
    }

    private void spoil(StringBuilder b) {
        String[] bits = {" ", ";", "0", "5", "a", "z", "sort ", "mark 3;", "keen 5;", "x", "" + (char) 200, "" + (char) 0, "A", "007", "`", "{", "/", ":"};
        int place = random.nextInt(b.length());
        switch (random.nextInt(3)) {
            case 0: b.deleteCharAt(place); break;
            case 1: b.insert(place, bits[random.nextInt(bits.length)]); break;
            default: b.setLength(place); break;
        }
    }

    private String call() {
        int kind = draw(0, 4);
        int w = kind == 3 ? draw(0, 10) : draw(0, 99);
        int p = draw(0, 99);
        int s = draw(0, 5);
        String offer = kind + ", " + w;
        switch (random.nextInt(32)) {
            case 0: return callSort();
            case 1: return callSet(s);
            case 2: { int q = draw(0, 5); return same("of(" + s + ", " + q + ")", x.of(s, q), y.of(s, q)); }
            case 3: { int q = draw(0, 3); return same("rule(" + q + ")", x.rule(q), y.rule(q)); }
            case 4: { int q = draw(0, 2); return same("comes(" + offer + ", " + p + ", " + q + ")", x.comes(kind, w, p, q), y.comes(kind, w, p, q)); }
            case 5: return same("sold(" + offer + ", " + p + ", " + s + ")", x.sold(kind, w, p, s), y.sold(kind, w, p, s));
            case 6: case 7: { int q = draw(0, 1); return same("thought(" + offer + ", " + p + ", " + q + ")", x.thought(kind, w, p, q), y.thought(kind, w, p, q)); }
            case 8: { int q = draw(0, 3); return same("rests(" + offer + ", " + q + ")", x.rests(kind, w, q), y.rests(kind, w, q)); }
            case 9: case 10: { int q = random.nextBoolean() ? draw(0, 14) : draw(10, 99); return same("fall(" + offer + ", " + p + ", " + q + ")", x.fall(kind, w, p, q), y.fall(kind, w, p, q)); }
            case 11: return same("gain(" + offer + ", " + p + ")", x.gain(kind, w, p), y.gain(kind, w, p));
            case 12: return same("lost(" + offer + ", " + p + ")", x.lost(kind, w, p), y.lost(kind, w, p));
            case 13: { int q = draw(0, 1); return same("best(" + offer + ", " + q + ")", x.best(kind, w, q), y.best(kind, w, q)); }
            case 14: return same("all()", x.all(), y.all());
            case 15: { int f = draw(0, 9), q = draw(0, 1); return same("part(" + f + ", " + q + ")", x.part(f, q), y.part(f, q)); }
            case 16: return same("sharp()", x.sharp(), y.sharp());
            case 17: { int q = draw(0, 1); return same("days(" + q + ")", x.days(q), y.days(q)); }
            case 18: { int g = draw(1, 99), d = draw(0, 999); return same("keep(" + g + ", " + d + ")", x.keep(g, d), y.keep(g, d)); }
            case 19: return same("edge(" + s + ")", x.edge(s), y.edge(s));
            case 20: return same("spur(" + s + ")", x.spur(s), y.spur(s));
            case 21: { int bits = draw(0, 15), q = draw(0, 1); return same("laws(" + bits + ", " + w + ", " + q + ")", x.laws(bits, w, q), y.laws(bits, w, q)); }
            case 22: { int q = draw(0, 1); return same("bestLaws(" + w + ", " + q + ")", x.bestLaws(w, q), y.bestLaws(w, q)); }
            case 23: { int n = draw(0, 99), q = draw(0, 1); return same("learn(" + p + ", " + n + ", " + q + ")", x.learn(p, n, q), y.learn(p, n, q)); }
            case 24: { int k = draw(0, 3), lane = draw(0, 2), n = draw(0, 40); return same("sheet(" + k + ", " + lane + ", " + n + ")", x.sheet(k, lane, n), y.sheet(k, lane, n)); }
            case 25: return fillSheet();
            case 26: { int k = draw(0, 3), i = draw(0, 40), v = random.nextInt(); return same("lay(" + k + ", " + i + ", " + v + ")", x.lay(k, i, v), y.lay(k, i, v)); }
            case 27: case 28: return callRead();
            case 29: return same("torn()", x.torn(), y.torn());
            case 30: { long v = random.nextLong(); return same("feed(" + v + ")", x.feed(v), y.feed(v)); }
            default: { int q = draw(0, 5); return same("count(" + q + ")", x.count(q), y.count(q)); }
        }
    }

    private String callSort() {
        int many = draw(1, 50), has = draw(0, 99), would = draw(0, 99);
        return same("sort(" + many + ", " + has + ", " + would + ")", x.sort(many, has, would), y.sort(many, has, would));
    }

    private String callSet(int s) {
        int what = draw(0, 4), v = what == 0 || what == 4 ? draw(0, 50) : what == 3 ? draw(0, 10) : draw(0, 99);
        return same("set(" + s + ", " + what + ", " + v + ")", x.set(s, what, v), y.set(s, what, v));
    }

    private String callRead() {
        int k = few(0, 3), lane = few(0, 2), f = random.nextInt(3) == 0 ? draw(0, 40) : 0, n = draw(0, random.nextBoolean() ? 2 : 8);
        String wrong = same("read(" + k + ", " + lane + ", " + f + ", " + n + ")", x.read(k, lane, f, n), y.read(k, lane, f, n));
        return wrong != null ? wrong : same("torn()", x.torn(), y.torn());
    }

    private String fillSheet() {
        int k = random.nextInt(4), lane = random.nextInt(3), n = random.nextInt(41);
        String wrong = same("sheet(" + k + ", " + lane + ", " + n + ")", x.sheet(k, lane, n), y.sheet(k, lane, n));
        for (int i = 0; i < n && wrong == null; i++) {
            int v = i % 4 == 0 ? few(1, 50) : i % 4 == 3 ? few(0, 10) : few(0, 99);
            if (random.nextInt(10) == 0) v += 65536 * random.nextInt(3) + 256 * random.nextInt(2);
            wrong = same("lay(" + k + ", " + i + ", " + v + ")", x.lay(k, i, v), y.lay(k, i, v));
        }
        if (wrong != null) return wrong;
        int most = random.nextInt(4);
        return same("read(" + k + ", " + lane + ", 0, " + most + ")", x.read(k, lane, 0, most), y.read(k, lane, 0, most));
    }
}
