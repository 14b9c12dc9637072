import java.util.ArrayList;
import java.util.Arrays;
import java.util.List;

/**
 * The document once more, as plainly as it can be written: rows of DAYS are tried one by one, and
 * DAYS that were are gone through anew for each call. Slow, so short rows only.
 */
final class Model {
    static final int BAD = -1, FULL = -2, STATE = -4, NONE = -9, FINDING = -3;
    static final String LETTERS = "sfwrit";

    /** What is kept of a LAND. */
    static final class Story implements Cloneable {
        List<int[]> days = new ArrayList<>();
        /** DAY, STRIP, CROWN, how much. */
        List<int[]> payments = new ArrayList<>();
        int start;
        int[] rates = new int[2];

        Story twin() {
            Story s = new Story();
            s.days.addAll(days);
            s.payments.addAll(payments);
            s.start = start;
            s.rates = rates.clone();
            return s;
        }
    }

    int[][] rows = new int[6][];
    byte[][] texts = new byte[4][];
    int[] kind = new int[0];
    int[] dues = new int[0];
    Story story = new Story();
    Story[] kept = new Story[3];
    int asked;
    long upper;
    long lower = 1;
    int finding;
    int[] findings = new int[6];

    private int find(int f) {
        finding = f;
        findings[f]++;
        return FINDING;
    }

    private int tell(int v) {
        asked = v;
        return 1;
    }

    private int tell(long u, long l) {
        long a = u;
        long b = l;
        while (b != 0) {
            long c = a % b;
            a = b;
            b = c;
        }
        upper = u / a;
        lower = l / a;
        return 1;
    }

    private static boolean in(int v, int low, int high) {
        return low <= v && v <= high;
    }

    int row(int r, int n) {
        if (!in(r, 0, 5) || n > 40) return BAD;
        if (n < 0) return find(5);
        rows[r] = new int[n];
        return n;
    }

    int lay(int r, int i, int v) {
        if (!in(r, 0, 5)) return BAD;
        if (rows[r] == null) return find(1);
        if (!in(i, 0, rows[r].length - 1)) return find(2);
        tell(rows[r][i]);
        rows[r][i] = v;
        return 1;
    }

    int at(int r, int i) {
        if (!in(r, 0, 5)) return BAD;
        if (rows[r] == null) return find(1);
        if (!in(i, 0, rows[r].length - 1)) return find(2);
        return tell(rows[r][i]);
    }

    int tear(int r) {
        if (!in(r, 0, 5)) return BAD;
        if (rows[r] == null) return find(1);
        rows[r] = null;
        return 1;
    }

    int copy(int r, int i, int to, int j, int n) {
        if (!in(r, 0, 5) || !in(to, 0, 5)) return BAD;
        if (n < 0) return find(5);
        if (rows[r] == null || rows[to] == null) return find(1);
        if (i < 0 || j < 0 || (long) i + n > rows[r].length || (long) j + n > rows[to].length) return find(2);
        int[] taken = Arrays.copyOfRange(rows[r], i, i + n);
        for (int k = 0; k < n; k++) rows[to][j + k] = taken[k];
        return 1;
    }

    int mean(int r) {
        if (!in(r, 0, 5)) return BAD;
        if (rows[r] == null) return find(1);
        if (rows[r].length == 0) return find(4);
        return tell((int) (Arrays.stream(rows[r]).asLongStream().sum() / rows[r].length));
    }

    int text(int t, int n) {
        if (!in(t, 0, 3) || n > 60) return BAD;
        if (n < 0) return find(5);
        texts[t] = new byte[n];
        Arrays.fill(texts[t], (byte) 32);
        return n;
    }

    int put(int t, int i, int v) {
        if (!in(t, 0, 3)) return BAD;
        if (texts[t] == null) return find(1);
        if (!in(i, 0, texts[t].length - 1)) return find(2);
        int was = texts[t][i];
        texts[t][i] = (byte) v;
        return was + 1000;
    }

    /** By states of what may come next, sign by sign. */
    private int faultOf(byte[] text) {
        int strips = 0;
        int state = 0; // 0 between items, 1 a DUE is due, 2 the BORDER, 3 and 4 the RATES, 5 the end
        for (int i = 0; i < text.length; i++) {
            char c = (char) (text[i] & 255);
            boolean figure = c >= '0' && c <= '9';
            switch (state) {
                case 0:
                    if (c == ' ') break;
                    if (c == 'b' && strips >= 2) state = 2;
                    else if (LETTERS.indexOf(c) >= 0 && strips < 12) state = 1;
                    else return i;
                    break;
                case 1:
                    if (!figure) return i;
                    strips++;
                    state = 0;
                    break;
                case 2:
                    if (!figure || c - '0' > strips) return i;
                    state = 3;
                    break;
                case 3:
                case 4:
                    if (!figure || c == '0') return i;
                    state++;
                    break;
                default:
                    if (c != ' ') return i;
            }
        }
        return state == 5 ? NONE : text.length;
    }

    int fault(int t) {
        if (!in(t, 0, 3)) return BAD;
        if (texts[t] == null) return find(1);
        return faultOf(texts[t]);
    }

    int land(int t) {
        if (!in(t, 0, 3)) return BAD;
        if (texts[t] == null) return find(1);
        if (faultOf(texts[t]) != NONE) return STATE;
        StringBuilder all = new StringBuilder();
        for (byte b : texts[t]) if (b != 32) all.append((char) b);
        String s = all.toString();
        int b = s.indexOf('b');
        kind = new int[b / 2];
        dues = new int[b / 2];
        for (int i = 0; i < b / 2; i++) {
            kind[i] = LETTERS.indexOf(s.charAt(2 * i));
            dues[i] = s.charAt(2 * i + 1) - '0';
        }
        story = new Story();
        story.start = s.charAt(b + 1) - '0';
        story.rates = new int[] {s.charAt(b + 2) - '0', s.charAt(b + 3) - '0'};
        kept = new Story[3];
        return kind.length;
    }

    static int step(int[] kind, int border, int day, int a, int b) {
        if (a == b) return border;
        int crossed = a > b ? border - 1 : border;
        if (crossed < 0 || crossed >= kind.length) return border;
        int k = kind[crossed];
        if ((k == 2 || k == 5) && Math.abs(a - b) == 1) return border;
        if (k == 3 && day % 2 == 1) return border;
        return a > b ? border - 1 : border + 1;
    }

    private int lay(int[] kinds, int start, int day) {
        int border = start;
        for (int d = 0; d < day; d++) border = step(kinds, border, d, story.days.get(d)[0], story.days.get(d)[1]);
        return border;
    }

    int place() {
        return lay(kind, story.start, story.days.size());
    }

    private int toDo() {
        return story.days.size();
    }

    private boolean noLand() {
        return kind.length == 0;
    }

    private boolean isStrip(int i) {
        return in(i, 0, kind.length - 1);
    }

    private boolean isPlace(int to) {
        return in(to, 0, kind.length);
    }

    int pay(int i, int crown, int border) {
        int due = dues[i] * story.rates[crown];
        int own = i < border ? 0 : 1;
        switch (kind[i]) {
            case 1: return own == crown ? due : 0;
            case 4: return own == crown ? due * 2 : 0;
            case 5: return border == i || border == i + 1 ? due / 2 : 0;
            default: return 0;
        }
    }

    private int payBoth(int i, int border) {
        return pay(i, 0, border) + pay(i, 1, border);
    }

    private int payAll(int crown, int border) {
        int all = 0;
        for (int i = 0; i < kind.length; i++) all += pay(i, crown, border);
        return all;
    }

    private static boolean isTax(int day) {
        return day == 9 || day == 19 || day == 29 || day == 39;
    }

    private int fact(int i, int what) {
        switch (what) {
            case 0: return kind[i];
            case 1: return dues[i];
            case 2: return i < place() ? 0 : 1;
            case 5: {
                int n = 0;
                for (int d = 0; d < toDo(); d++) {
                    int from = lay(kind, story.start, d);
                    int to = lay(kind, story.start, d + 1);
                    if (from != to && Math.min(from, to) == i) n++;
                }
                return n;
            }
            default: {
                int sum = 0;
                for (int[] p : story.payments) if (p[1] == i && p[2] == what - 3) sum += p[3];
                return sum;
            }
        }
    }

    int strip(int i, int what) {
        if (!isStrip(i) || !in(what, 0, 5)) return BAD;
        return tell(fact(i, what));
    }

    int mark(int i, int k) {
        if (!isStrip(i) || !in(k, 1, 5)) return BAD;
        int own = kind[i];
        if (!(own == k || own == 4 && k == 1 || own == 5 && k == 2)) return find(3);
        int at = place();
        switch (k) {
            case 1: return payBoth(i, at);
            case 2: return at == i || at == i + 1 ? 1 : 0;
            case 3: return toDo() % 2 == 0 ? 1 : 0;
            case 4: return dues[i] * story.rates[i < at ? 0 : 1];
            default: return at == i || at == i + 1 ? dues[i] * story.rates[0] / 2 + dues[i] * story.rates[1] / 2 : 0;
        }
    }

    int rate(int crown, int v) {
        if (!in(crown, 0, 1) || !in(v, 1, 9)) return BAD;
        if (noLand()) return STATE;
        int was = story.rates[crown];
        story.rates[crown] = v;
        return was;
    }

    private void add(int a, int b) {
        int day = toDo();
        story.days.add(new int[] {a, b});
        if (isTax(day)) {
            for (int i = 0; i < kind.length; i++) {
                for (int c = 0; c < 2; c++) story.payments.add(new int[] {day, i, c, pay(i, c, place())});
            }
        }
    }

    int day(int a, int b) {
        if (!in(a, 0, 3) || !in(b, 0, 3)) return BAD;
        if (noLand()) return STATE;
        if (toDo() == 40) return FULL;
        add(a, b);
        return place();
    }

    int undo(int n) {
        if (!in(n, 0, toDo())) return BAD;
        int undone = toDo() - n;
        story.days = new ArrayList<>(story.days.subList(0, n));
        story.payments.removeIf(p -> p[0] >= n);
        return undone;
    }

    int border() {
        if (noLand()) return STATE;
        tell(toDo());
        return place();
    }

    int lain(int day) {
        if (!in(day, 0, toDo())) return BAD;
        return lay(kind, story.start, day);
    }

    int got(int crown) {
        if (!in(crown, 0, 1)) return BAD;
        int sum = 0;
        for (int[] p : story.payments) if (p[2] == crown) sum += p[3];
        return sum;
    }

    int keep(int k) {
        if (!in(k, 0, 2)) return BAD;
        if (noLand()) return STATE;
        kept[k] = story.twin();
        return toDo();
    }

    int on(int k) {
        if (!in(k, 0, 2)) return BAD;
        if (kept[k] == null) return find(1);
        story = kept[k].twin();
        return toDo();
    }

    /** -1, if it can't be. */
    int rudeness(int border, int move, int day) {
        int least = -1;
        for (int a = 0; a < 4; a++) {
            for (int b = 0; b < 4; b++) {
                if (step(kind, border, day, a, b) == border + move && (least < 0 || a + b < least)) least = a + b;
            }
        }
        return least;
    }

    int moves() {
        if (noLand()) return STATE;
        int bits = 0;
        for (int m = -1; m <= 1; m++) if (rudeness(place(), m, toDo()) >= 0) bits |= 1 << m + 1;
        return bits;
    }

    private boolean areMoves(int r) {
        for (int m : rows[r]) if (!in(m, -1, 1)) return false;
        return true;
    }

    /** First that can't be, where it is then, RUDENESS. */
    private int[] go(int[] row) {
        int at = place();
        int rude = 0;
        for (int k = 0; k < row.length; k++) {
            int one = rudeness(at, row[k], toDo() + k);
            if (one < 0) return new int[] {k, at, rude};
            rude += one;
            at += row[k];
        }
        return new int[] {row.length, at, rude};
    }

    private int paysBy(int i, int[] row) {
        int at = place();
        int sum = 0;
        for (int k = 0; k < row.length; k++) {
            at += row[k];
            if (isTax(toDo() + k)) sum += payBoth(i, at);
        }
        return sum;
    }

    private int getsBy(int crown, int[] row) {
        int at = place();
        int sum = 0;
        for (int k = 0; k < row.length; k++) {
            at += row[k];
            if (isTax(toDo() + k)) sum += payAll(crown, at);
        }
        return sum;
    }

    int judge(int r) {
        if (!in(r, 0, 5)) return BAD;
        if (noLand()) return STATE;
        if (rows[r] == null) return find(1);
        if (!areMoves(r)) return find(3);
        int[] went = go(rows[r]);
        tell(went[1]);
        return went[0];
    }

    int rude(int r) {
        if (!in(r, 0, 5)) return BAD;
        if (noLand()) return STATE;
        if (rows[r] == null) return find(1);
        if (!areMoves(r) || go(rows[r])[0] < rows[r].length) return find(3);
        return go(rows[r])[2];
    }

    int pays(int i, int r) {
        if (!isStrip(i) || !in(r, 0, 5)) return BAD;
        if (rows[r] == null) return find(1);
        if (!areMoves(r) || go(rows[r])[0] < rows[r].length) return find(3);
        return paysBy(i, rows[r]);
    }

    /** All rows of n MOVES that can be, in order. */
    private List<int[]> all(int n) {
        List<int[]> list = new ArrayList<>();
        grow(new int[n], 0, place(), list);
        return list;
    }

    private void grow(int[] row, int k, int at, List<int[]> list) {
        if (k == row.length) {
            list.add(row.clone());
            return;
        }
        for (int m = -1; m <= 1; m++) {
            if (rudeness(at, m, toDo() + k) < 0) continue;
            row[k] = m;
            grow(row, k + 1, at + m, list);
        }
    }

    /** The first row by which it comes there on the last of n DAYS, or null. */
    private boolean hunt(int[] row, int k, int at, int to) {
        if (Math.abs(at - to) > row.length - k) return false;
        if (k == row.length) return true;
        for (int m = -1; m <= 1; m++) {
            if (rudeness(at, m, toDo() + k) < 0) continue;
            row[k] = m;
            if (hunt(row, k + 1, at + m, to)) return true;
        }
        return false;
    }

    int soonest(int to, int r) {
        if (!isPlace(to) || !in(r, 0, 5)) return BAD;
        if (noLand()) return STATE;
        for (int n = 0; n <= 20; n++) {
            int[] row = new int[n];
            if (hunt(row, 0, place(), to)) {
                rows[r] = row;
                return n;
            }
        }
        return NONE;
    }

    int polite(int to, int n, int r) {
        if (!isPlace(to) || !in(n, 0, 20) || !in(r, 0, 5)) return BAD;
        if (noLand()) return STATE;
        int[] best = null;
        for (int[] row : all(n)) {
            if (go(row)[1] == to && (best == null || go(row)[2] < go(best)[2])) best = row;
        }
        if (best == null) return NONE;
        rows[r] = best;
        return go(best)[2];
    }

    int ways(int to, int n) {
        if (!isPlace(to) || !in(n, 0, 20)) return BAD;
        if (noLand()) return STATE;
        return tell(all(n).stream().filter(row -> go(row)[1] == to).count(), 1L);
    }

    int reach(int n) {
        if (!in(n, 0, 20)) return BAD;
        if (noLand()) return STATE;
        int bits = 0;
        for (int[] row : all(n)) bits |= 1 << go(row)[1];
        return bits;
    }

    int least(int i, int n, int r) {
        if (!isStrip(i) || !in(n, 0, 20) || !in(r, 0, 5)) return BAD;
        int[] best = null;
        for (int[] row : all(n)) if (best == null || paysBy(i, row) < paysBy(i, best)) best = row;
        rows[r] = best;
        return paysBy(i, best);
    }

    int most(int crown, int n) {
        if (!in(crown, 0, 1) || !in(n, 0, 20)) return BAD;
        if (noLand()) return STATE;
        int best = 0;
        for (int[] row : all(n)) best = Math.max(best, getsBy(crown, row));
        return best;
    }

    int now() {
        if (noLand()) return STATE;
        tell(payAll(1, place()));
        return payAll(0, place());
    }

    /** Over all that can be SAID in n DAYS: how often it is there at the end, on some DAY; what is paid. */
    private long[] tally(int to, int i, int n) {
        long[] sums = new long[3];
        talk(sums, place(), place() == to, 0, 0, new int[] {to, i, n});
        return sums;
    }

    private void talk(long[] sums, int at, boolean met, int paid, int k, int[] asked) {
        if (k == asked[2]) {
            if (at == asked[0]) sums[0]++;
            if (met) sums[1]++;
            sums[2] += paid;
            return;
        }
        for (int a = 0; a < 4; a++) {
            for (int b = 0; b < 4; b++) {
                int next = step(kind, at, toDo() + k, a, b);
                int more = isTax(toDo() + k) && asked[1] >= 0 ? payBoth(asked[1], next) : 0;
                talk(sums, next, met || next == asked[0], paid + more, k + 1, asked);
            }
        }
    }

    int odds(int to, int n) {
        if (!isPlace(to) || !in(n, 0, 6)) return BAD;
        if (noLand()) return STATE;
        return tell(tally(to, -1, n)[0], 1L << 4 * n);
    }

    int met(int to, int n) {
        if (!isPlace(to) || !in(n, 0, 6)) return BAD;
        if (noLand()) return STATE;
        return tell(tally(to, -1, n)[1], 1L << 4 * n);
    }

    int hedge(int i, int n) {
        if (!isStrip(i) || !in(n, 0, 6)) return BAD;
        return tell(tally(-1, i, n)[2], 1L << 4 * n);
    }

    /** By the whole tree: what CROWN 0 has in the end, being at a place on a DAY with so much said. */
    private int play(int at, int k, int n, int v, int talk) {
        if (k == n) return at - (kind.length - at) + v * talk;
        int best = Integer.MIN_VALUE;
        for (int a = 0; a < 4; a++) best = Math.max(best, heard(at, k, n, v, talk, a));
        return best;
    }

    private int heard(int at, int k, int n, int v, int talk, int a) {
        int worst = Integer.MAX_VALUE;
        for (int b = 0; b < 4; b++) {
            worst = Math.min(worst, play(step(kind, at, toDo() + k, a, b), k + 1, n, v, talk + a - b));
        }
        return worst;
    }

    int game(int n, int v) {
        if (!in(n, 0, 4) || !in(v, 0, 9)) return BAD;
        if (noLand()) return STATE;
        return tell(play(place(), 0, n, v, 0));
    }

    private int says(int k, int n, int v, int at, int talk) {
        for (int a = 0; a < 4; a++) if (heard(at, k, n, v, talk, a) == play(at, k, n, v, talk)) return a;
        return -1;
    }

    int said(int n, int v) {
        if (!in(n, 1, 4) || !in(v, 0, 9)) return BAD;
        if (noLand()) return STATE;
        return says(0, n, v, place(), 0);
    }

    int calm(int n, int v) {
        if (!in(n, 0, 4) || !in(v, 0, 9)) return BAD;
        if (noLand()) return STATE;
        int at = place();
        int talk = 0;
        boolean polite = true;
        for (int k = 0; k < n; k++) {
            int a = says(k, n, v, at, talk);
            int b = 0;
            while (play(step(kind, at, toDo() + k, a, b), k + 1, n, v, talk + a - b) != heard(at, k, n, v, talk, a)) b++;
            polite &= a == 0 && b == 0;
            at = step(kind, at, toDo() + k, a, b);
            talk += a - b;
        }
        return polite ? 1 : 0;
    }

    int law(int i, int day) {
        if (!isStrip(i) || !in(day, 0, 40)) return BAD;
        if (day > toDo()) return STATE;
        int at = lay(kind, story.start, day);
        if (kind[i] == 5 && (at == i || at == i + 1)) return 3;
        return i < at ? 1 : 2;
    }

    int books(int r) {
        if (!in(r, 0, 5)) return BAD;
        if (noLand()) return STATE;
        int[] row = rows[r];
        if (row == null) return find(1);
        if (row.length % 3 != 0) return find(5);
        for (int k = 0; k < row.length; k += 3) {
            if (!in(row[k], 0, toDo()) || !isStrip(row[k + 1]) || !in(row[k + 2], 0, 1)) return find(3);
        }
        int bits = 0;
        for (int start = 0; start <= kind.length; start++) {
            boolean fits = true;
            for (int k = 0; k < row.length; k += 3) {
                fits &= (row[k + 1] < lay(kind, start, row[k]) ? 0 : 1) == row[k + 2];
            }
            if (fits) bits |= 1 << start;
        }
        return bits;
    }

    int kinds(int i) {
        if (!isStrip(i)) return BAD;
        int bits = 0;
        for (int k = 0; k < 6; k++) {
            int[] other = kind.clone();
            other[i] = k;
            if (lay(other, story.start, toDo()) == place()) bits |= 1 << k;
        }
        return bits;
    }

    int lots(int n, int seed) {
        if (!in(n, 1, 20) || !in(seed, 1, 2147483646)) return BAD;
        if (noLand()) return STATE;
        if (toDo() + n > 40) return FULL;
        long x = seed;
        for (int k = 0; k < n; k++) {
            x = x * 48271 % 2147483647;
            add((int) (x % 4), (int) (x / 16 % 4));
        }
        return place();
    }

    int count(int what) {
        int n = 0;
        switch (what) {
            case 0: return kind.length;
            case 1: return toDo();
            case 2: return story.rates[0];
            case 3: return story.rates[1];
            case 4: for (int k : kind) if (k == 1 || k == 4) n++; return n;
            case 5: for (int k : kind) if (k == 2 || k == 5) n++; return n;
            case 6: for (int[] row : rows) if (row != null) n++; return n;
            case 7: for (byte[] text : texts) if (text != null) n++; return n;
            case 8: for (Story s : kept) if (s != null) n++; return n;
            default: return BAD;
        }
    }

    int findings(int f) {
        return in(f, 1, 5) ? findings[f] : BAD;
    }

    long digest() {
        List<Integer> vs = new ArrayList<>();
        for (int what = 0; what <= 8; what++) vs.add(count(what));
        vs.add(place());
        for (int i = 0; i < kind.length; i++) for (int what = 0; what <= 5; what++) vs.add(fact(i, what));
        for (Story s : kept) vs.add(s == null ? -1 : s.days.size());
        for (int[] row : rows) {
            vs.add(row == null ? -1 : row.length);
            if (row != null) for (int v : row) vs.add(v);
        }
        for (byte[] text : texts) {
            vs.add(text == null ? -1 : text.length);
            if (text != null) for (byte v : text) vs.add((int) v);
        }
        long h = 17;
        for (int v : vs) h = 31 * h + v;
        return h;
    }
}
