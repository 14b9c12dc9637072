import java.util.Random;

/**
 * Rows of up to 20 MOVES, too many for the Model to try: they are grown here from the first DAY on,
 * the best one to each place, where the class goes from the last DAY back. And 6 DAYS by CHANCE.
 */
public final class LongRowsTest {
    private static final int LANDS = 60, DAYS = 20;
    private static final Check CHECK = new Check();
    private static final Random RANDOM = new Random(20L);

    private final PaceBorder x;
    private final Model m = new Model();

    /** The best row to each place so far: what it costs and its MOVES ("0" for -1, "1" for 0, "2" for 1). */
    private int[] costs;
    private String[] rows;

    private LongRowsTest(String land) {
        x = Check.land(land);
        m.text(0, land.length());
        for (int i = 0; i < land.length(); i++) {
            m.put(0, i, land.charAt(i));
        }
        m.land(0);
        for (int day = RANDOM.nextInt(41); day > 0; day--) {
            int a = RANDOM.nextInt(4);
            int b = RANDOM.nextInt(4);
            CHECK.due("day()", x.day(a, b), m.day(a, b));
        }
    }

    private static String anyLand() {
        StringBuilder s = new StringBuilder();
        int strips = 2 + RANDOM.nextInt(11);
        for (int i = 0; i < strips; i++) {
            s.append(Model.LETTERS.charAt(RANDOM.nextInt(6))).append(RANDOM.nextInt(10));
        }
        s.append('b').append(RANDOM.nextInt(Math.min(9, strips) + 1));
        return s.append(1 + RANDOM.nextInt(9)).append(1 + RANDOM.nextInt(9)).toString();
    }

    private void begin() {
        costs = new int[m.count(0) + 1];
        rows = new String[m.count(0) + 1];
        rows[m.place()] = "";
    }

    /** One DAY more; a STRIP's DUES (CROWN -1: both together), a CROWN's (STRIP -1), or RUDENESS (neither). */
    private void grow(int k, int strip, int crown) {
        int[] nextCosts = new int[costs.length];
        String[] nextRows = new String[rows.length];
        for (int at = 0; at < rows.length; at++) {
            for (int move = -1; move <= 1 && rows[at] != null; move++) {
                int rudeness = m.rudeness(at, move, m.count(1) + k);
                if (rudeness < 0) continue;
                int to = at + move;
                int cost = costs[at] + (strip < 0 && crown < 0 ? rudeness : dues(to, m.count(1) + k, strip, crown));
                String row = rows[at] + (move + 1);
                boolean better = nextRows[to] == null || cost < nextCosts[to]
                    || cost == nextCosts[to] && row.compareTo(nextRows[to]) < 0;
                if (better) {
                    nextCosts[to] = cost;
                    nextRows[to] = row;
                }
            }
        }
        costs = nextCosts;
        rows = nextRows;
    }

    private int dues(int at, int day, int strip, int crown) {
        if (day != 9 && day != 19 && day != 29 && day != 39) return 0;
        if (strip >= 0) return m.pay(strip, 0, at) + m.pay(strip, 1, at);
        int all = 0;
        for (int i = 0; i < m.count(0); i++) all -= m.pay(i, crown, at);
        return all;
    }

    private int best() {
        int best = -1;
        for (int at = 0; at < rows.length; at++) {
            if (rows[at] == null) continue;
            boolean better = best < 0 || costs[at] < costs[best]
                || costs[at] == costs[best] && rows[at].compareTo(rows[best]) < 0;
            if (better) best = at;
        }
        return best;
    }

    private void isRow(String call, int r, String row) {
        for (int k = 0; k < row.length(); k++) {
            CHECK.told(x, call + ": place " + k, x.at(r, k), row.charAt(k) - '1');
        }
        CHECK.due(call + ": its size", x.at(r, row.length()), PaceBorder.FINDING);
    }

    private void politeAndSoonest() {
        boolean[] came = new boolean[m.count(0) + 1];
        begin();
        for (int n = 0; n <= DAYS; n++) {
            int reached = 0;
            for (int to = 0; to < rows.length; to++) {
                String call = "polite(" + to + ", " + n + ")";
                CHECK.due(call, x.polite(to, n, 0), rows[to] == null ? PaceBorder.NONE : costs[to]);
                if (rows[to] == null) continue;
                reached |= 1 << to;
                isRow(call, 0, rows[to]);
                if (!came[to]) CHECK.due("soonest(" + to + ")", x.soonest(to, 1), n);
                came[to] = true;
            }
            CHECK.due("reach(" + n + ")", x.reach(n), reached);
            grow(n, -1, -1);
        }
        for (int to = 0; to < came.length; to++) {
            if (!came[to]) CHECK.due("soonest(" + to + ")", x.soonest(to, 1), PaceBorder.NONE);
        }
    }

    private void least(int strip) {
        begin();
        for (int n = 0; n <= DAYS; n++) {
            String call = "least(" + strip + ", " + n + ")";
            CHECK.due(call, x.least(strip, n, 2), costs[best()]);
            isRow(call, 2, rows[best()]);
            grow(n, strip, -1);
        }
    }

    private void most(int crown) {
        begin();
        for (int n = 0; n <= DAYS; n++) {
            CHECK.due("most(" + crown + ", " + n + ")", x.most(crown, n), -costs[best()]);
            grow(n, -1, crown);
        }
    }

    /** All that can be SAID in n DAYS, one by one: too slow for each LAND. */
    private void chances(int n) {
        int to = RANDOM.nextInt(m.count(0) + 1);
        int strip = RANDOM.nextInt(m.count(0));
        m.odds(to, n);
        CHECK.chance(x, "odds(" + to + ", " + n + ")", x.odds(to, n), m.upper, m.lower);
        m.met(to, n);
        CHECK.chance(x, "met(" + to + ", " + n + ")", x.met(to, n), m.upper, m.lower);
        m.hedge(strip, n);
        CHECK.chance(x, "hedge(" + strip + ", " + n + ")", x.hedge(strip, n), m.upper, m.lower);
    }

    public static void main(String[] args) {
        for (int land = 0; land < LANDS; land++) {
            LongRowsTest test = new LongRowsTest(anyLand());
            test.politeAndSoonest();
            test.least(RANDOM.nextInt(test.m.count(0)));
            test.most(land % 2);
            if (land % 6 == 0) test.chances(6);
        }
        CHECK.end();
    }
}
