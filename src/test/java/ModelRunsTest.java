import java.util.Random;

/** Runs of calls, ordinary and wrong, drawn with fixed seeds, against the Model. */
public final class ModelRunsTest {
    private static final int RUNS = 600, CALLS = 400;
    private final Check check = new Check();
    private final Random random;
    private PaceBorder x = new PaceBorder();
    private Model m = new Model();

    private ModelRunsTest(long seed) {
        random = new Random(seed);
    }

    /** Mostly low .. high, now and then a little or far beyond. */
    private int near(int low, int high) {
        int dice = random.nextInt(60);
        if (dice == 0) return low - 1;
        if (dice == 1) return high + 1;
        if (dice == 2) return random.nextInt();
        if (dice == 3) return random.nextBoolean() ? Integer.MIN_VALUE : Integer.MAX_VALUE;
        return low + random.nextInt(high - low + 1);
    }

    private String landText() {
        StringBuilder s = new StringBuilder();
        int strips = 2 + random.nextInt(random.nextBoolean() ? 11 : 4);
        for (int i = 0; i < strips; i++) {
            blanks(s);
            s.append(Model.LETTERS.charAt(random.nextInt(6))).append(random.nextInt(10));
        }
        blanks(s);
        s.append('b').append(random.nextInt(Math.min(9, strips) + 1));
        s.append(1 + random.nextInt(9)).append(1 + random.nextInt(9));
        blanks(s);
        if (random.nextInt(4) == 0) spoil(s);
        if (s.length() > 60) s.setLength(60);
        return s.toString();
    }

    private void blanks(StringBuilder s) {
        for (int n = random.nextInt(6) - 3; n > 0; n--) s.append(' ');
    }

    private void spoil(StringBuilder s) {
        int i = random.nextInt(s.length());
        switch (random.nextInt(4)) {
            case 0: s.setLength(i); break;
            case 1: s.insert(i, "sfwritb0123456789 x".charAt(random.nextInt(19))); break;
            case 2: s.deleteCharAt(i); break;
            default: s.setCharAt(i, (char) random.nextInt(256));
        }
    }

    private void writeLand() {
        int t = random.nextInt(4);
        String s = landText();
        same("text", x.text(t, s.length()), m.text(t, s.length()));
        for (int i = 0; i < s.length(); i++) same("put", x.put(t, i, s.charAt(i)), m.put(t, i, s.charAt(i)));
        same("fault of '" + s + "'", x.fault(t), m.fault(t));
        same("land of '" + s + "'", x.land(t), m.land(t));
    }

    private void fillRow() {
        int r = random.nextInt(6);
        int n = random.nextInt(14);
        same("row", x.row(r, n), m.row(r, n));
        int high = random.nextInt(12) == 0 ? 2 : 1;
        for (int i = 0; i < n; i++) {
            int v = random.nextInt(3) == 0 ? near(-1, high) : random.nextInt(3) - 1;
            if (random.nextInt(10) != 0) v = Math.max(-1, Math.min(1, v));
            same("lay", x.lay(r, i, v), m.lay(r, i, v));
        }
    }

    private void fillBooks() {
        int r = random.nextInt(6);
        int n = random.nextInt(6) * 3 + (random.nextInt(9) == 0 ? 1 : 0);
        same("row", x.row(r, n), m.row(r, n));
        for (int i = 0; i < n; i++) {
            int high = i % 3 == 0 ? m.count(1) : i % 3 == 1 ? Math.max(0, m.count(0) - 1) : 1;
            int v = near(0, high);
            if (i % 3 == 2 && random.nextInt(3) != 0) v = x.at(r, i - 1) == 1 && x.asked() < m.place() ? 0 : 1;
            same("lay", x.lay(r, i, v), m.lay(r, i, v));
        }
        same("books", x.books(r), m.books(r));
    }

    private void same(String call, long got, long want) {
        check.due(call, got, want);
        check.due("finding() behind " + call, x.finding(), m.finding);
        check.due("upper() behind " + call, x.upper(), m.upper);
        check.due("lower() behind " + call, x.lower(), m.lower);
        if (!call.equals("lay") || random.nextInt(5) == 0) m.asked = sameAsked(call);
    }

    private int sameAsked(String call) {
        check.due("asked() behind " + call, x.asked(), m.asked);
        return m.asked;
    }

    private void callOf(int which) {
        int strips = Math.max(1, m.count(0));
        int r = near(0, 5);
        int i = near(0, strips - 1);
        int to = near(0, strips);
        int n = near(0, 7);
        if (n > 7 && n <= 20) n = 21;
        int crown = near(0, 1);
        switch (which) {
            case 0: { int s = near(0, 40); same("row", x.row(r, s), m.row(r, s)); break; }
            case 1: { int p = near(0, 20); int v = random.nextInt(); same("lay", x.lay(r, p, v), m.lay(r, p, v)); break; }
            case 2: { int p = near(0, 20); same("at", x.at(r, p), m.at(r, p)); break; }
            case 3: same("tear", x.tear(r), m.tear(r)); break;
            case 4: {
                int p = near(0, 9);
                int q = near(0, 9);
                int o = near(0, 5);
                int s = near(0, 8);
                same("copy", x.copy(r, p, o, q, s), m.copy(r, p, o, q, s));
                break;
            }
            case 5: same("mean", x.mean(r), m.mean(r)); break;
            case 6: { int t = near(0, 3); int s = near(0, 60); same("text", x.text(t, s), m.text(t, s)); break; }
            case 7: { int t = near(0, 3); int p = near(0, 30); int v = random.nextInt(700) - 300; same("put", x.put(t, p, v), m.put(t, p, v)); break; }
            case 8: { int t = near(0, 3); same("fault", x.fault(t), m.fault(t)); break; }
            case 9: if (random.nextInt(9) == 0) { int t = near(0, 3); same("land", x.land(t), m.land(t)); } break;
            case 10: { int w = near(0, 5); same("strip " + w, x.strip(i, w), m.strip(i, w)); break; }
            case 11: { int k = near(0, 5); same("mark " + k, x.mark(i, k), m.mark(i, k)); break; }
            case 12: { int v = near(1, 9); same("rate", x.rate(crown, v), m.rate(crown, v)); break; }
            case 13: { int a = near(0, 3); int b = near(0, 3); same("day", x.day(a, b), m.day(a, b)); break; }
            case 14: { int d = near(0, 41); if (d < m.count(1) && random.nextInt(3) != 0) d = 41; same("undo", x.undo(d), m.undo(d)); break; }
            case 15: same("border", x.border(), m.border()); break;
            case 16: { int d = near(0, 40); same("lain", x.lain(d), m.lain(d)); break; }
            case 17: same("got", x.got(crown), m.got(crown)); break;
            case 18: { int k = near(0, 2); same("keep", x.keep(k), m.keep(k)); break; }
            case 19: { int k = near(0, 2); if (random.nextInt(3) == 0) same("on", x.on(k), m.on(k)); break; }
            case 20: same("moves", x.moves(), m.moves()); break;
            case 21: same("judge", x.judge(r), m.judge(r)); break;
            case 22: same("rude", x.rude(r), m.rude(r)); break;
            case 23: same("pays", x.pays(i, r), m.pays(i, r)); break;
            case 24: same("soonest", x.soonest(to, r), m.soonest(to, r)); break;
            case 25: same("polite", x.polite(to, n, r), m.polite(to, n, r)); break;
            case 26: same("ways", x.ways(to, n), m.ways(to, n)); break;
            case 27: same("reach", x.reach(n), m.reach(n)); break;
            case 28: same("least", x.least(i, n, r), m.least(i, n, r)); break;
            case 29: same("most", x.most(crown, n), m.most(crown, n)); break;
            case 30: same("now", x.now(), m.now()); break;
            case 31: { int d = near(0, 3) % 7; same("odds", x.odds(to, d), m.odds(to, d)); break; }
            case 32: { int d = near(0, 3) % 7; same("met", x.met(to, d), m.met(to, d)); break; }
            case 33: { int d = near(0, 3) % 7; same("hedge", x.hedge(i, d), m.hedge(i, d)); break; }
            case 34: { int d = near(0, 2); int v = near(0, 9); same("game", x.game(d, v), m.game(d, v)); break; }
            case 35: { int d = near(0, 2); int v = near(0, 9); same("said", x.said(d, v), m.said(d, v)); break; }
            case 36: { int d = near(0, 2); int v = near(0, 4); same("calm", x.calm(d, v), m.calm(d, v)); break; }
            case 37: { int d = near(0, Math.max(1, m.count(1))); same("law", x.law(i, d), m.law(i, d)); break; }
            case 38: same("books", x.books(r), m.books(r)); break;
            case 39: same("kinds", x.kinds(i), m.kinds(i)); break;
            case 40: { int d = near(1, 9); int s = near(1, 99999); same("lots", x.lots(d, s), m.lots(d, s)); break; }
            case 41: { int w = near(0, 8); same("count " + w, x.count(w), m.count(w)); break; }
            case 42: { int f = near(1, 5); same("findings", x.findings(f), m.findings(f)); break; }
            case 43: same("digest", x.digest(), m.digest()); break;
            case 44: fillBooks(); break;
            case 45: { int s = m.count(1); same("day", x.day(s % 4, 3 - s % 4), m.day(s % 4, 3 - s % 4)); break; }
            default: fillRow();
        }
    }

    private void run() {
        x = new PaceBorder();
        m = new Model();
        if (random.nextInt(8) != 0) writeLand();
        for (int c = 0; c < CALLS; c++) {
            if (random.nextInt(150) == 0) writeLand();
            callOf(random.nextInt(47));
        }
        same("digest at the end", x.digest(), m.digest());
    }

    public static void main(String[] args) {
        ModelRunsTest test = new ModelRunsTest(20261117L);
        for (int r = 0; r < RUNS; r++) test.run();
        test.check.end();
    }
}
