/** Promises 43 to 49: what is told. */
public final class ToldTest {
    private static final Check CHECK = new Check();

    private static void before() {
        PaceBorder x = new PaceBorder();
        CHECK.due("asked()", x.asked(), 0);
        CHECK.due("upper()", x.upper(), 0);
        CHECK.due("lower()", x.lower(), 1);
        CHECK.due("finding()", x.finding(), 0);
        for (int f = 1; f <= 5; f++) {
            CHECK.due("findings(" + f + ")", x.findings(f), 0);
        }
        CHECK.due("findings(0)", x.findings(0), PaceBorder.BAD);
        CHECK.due("findings(6)", x.findings(6), PaceBorder.BAD);
    }

    private static void asked() {
        PaceBorder x = Check.land("f2f3b112");
        x.row(0, 1);
        x.lay(0, 0, 8);
        CHECK.due("asked() by lay()", x.asked(), 0);
        x.at(0, 0);
        CHECK.due("asked() by at()", x.asked(), 8);
        x.at(0, 1);
        x.at(9, 0);
        CHECK.due("asked() still", x.asked(), 8);
        x.strip(1, 1);
        CHECK.due("asked() by strip()", x.asked(), 3);
        x.mean(0);
        CHECK.due("asked() by mean()", x.asked(), 8);
        x.border();
        CHECK.due("asked() by border()", x.asked(), 0);
        x.now();
        CHECK.due("asked() by now()", x.asked(), 6);
        x.game(0, 0);
        CHECK.due("asked() by game()", x.asked(), 0);
        x.lay(0, 0, 1);
        x.judge(0);
        CHECK.due("asked() by judge()", x.asked(), 2);
        x.digest();
        x.soonest(0, 0);
        x.said(1, 0);
        CHECK.due("asked() by others", x.asked(), 2);
    }

    private static void chances() {
        PaceBorder x = Check.land("f2f3b112");
        x.odds(0, 1);
        x.odds(9, 1);
        x.met(0, 7);
        x.hedge(5, 0);
        x.ways(0, 21);
        CHECK.due("upper() behind what was refused", x.upper(), 3);
        CHECK.due("lower() behind what was refused", x.lower(), 8);
        x.ways(1, 2);
        CHECK.due("upper() by ways()", x.upper(), 3);
        CHECK.due("lower() by ways()", x.lower(), 1);
    }

    private static void count() {
        PaceBorder x = Check.land("s1f2i3w4t5r6f7b289");
        x.row(1, 0);
        x.row(4, 3);
        x.text(3, 0);
        x.keep(0);
        x.day(0, 0);
        int[] due = {7, 1, 8, 9, 3, 2, 2, 2, 1};
        for (int what = 0; what <= 8; what++) {
            CHECK.due("count(" + what + ")", x.count(what), due[what]);
        }
        CHECK.due("count(9)", x.count(9), PaceBorder.BAD);
        CHECK.due("count(-1)", x.count(-1), PaceBorder.BAD);
    }

    private static void findings() {
        PaceBorder x = Check.land("f2f3b112");
        x.row(0, -1);
        x.at(0, 0);
        x.at(0, 0);
        x.row(0, 0);
        x.at(0, 0);
        x.mean(0);
        x.mark(0, 5);
        x.mark(0, 9);
        CHECK.due("finding()", x.finding(), 3);
        int[] due = {2, 1, 1, 1, 1};
        for (int f = 1; f <= 5; f++) {
            CHECK.due("findings(" + f + ")", x.findings(f), due[f - 1]);
        }
    }

    private static long onto(long h, long... vs) {
        for (long v : vs) {
            h = 31 * h + v;
        }
        return h;
    }

    private static void digest() {
        long h = onto(17, 0, 0, 0, 0, 0, 0, 0, 0, 0, 0, -1, -1, -1);
        h = onto(h, -1, -1, -1, -1, -1, -1, -1, -1, -1, -1);
        CHECK.due("digest() of a new object", new PaceBorder().digest(), h);
        PaceBorder x = Check.land("f2i3b012");
        x.keep(1);
        Check.days(x, 10, 0, 1);
        x.keep(2);
        x.undo(10);
        x.day(1, 0);
        Check.fill(x, 3, 7, -7);
        x.text(2, 1);
        x.put(2, 0, 255);
        h = onto(17, 2, 11, 1, 2, 2, 0, 1, 2, 2, 1);
        h = onto(h, 1, 2, 0, 2, 0, 1, 4, 3, 1, 6, 0, 2);
        h = onto(h, -1, 0, 10, -1, -1, -1, 2, 7, -7, -1, -1);
        h = onto(h, 8, 'f', '2', 'i', '3', 'b', '0', '1', '2', -1, 1, -1, -1);
        CHECK.due("digest()", x.digest(), h);
    }

    /** What is refused changes nothing but finding(), findings(). */
    private static void refused() {
        PaceBorder x = Check.land("f2f3b112");
        Check.fill(x, 0, 5);
        long was = x.digest();
        x.row(0, 41);
        x.row(0, -1);
        x.lay(0, 1, 3);
        x.copy(0, 0, 0, 1, 1);
        x.text(0, 61);
        x.text(0, -1);
        x.put(0, 99, 1);
        x.rate(0, 10);
        x.day(0, 4);
        x.undo(1);
        x.on(0);
        x.keep(3);
        x.soonest(3, 0);
        x.polite(0, 21, 0);
        x.polite(2, 0, 0);
        x.least(2, 1, 0);
        x.lots(0, 1);
        x.lots(1, 0);
        CHECK.due("digest() behind what was refused", x.digest(), was);
    }

    public static void main(String[] args) {
        before();
        asked();
        chances();
        count();
        findings();
        digest();
        refused();
        CHECK.end();
    }
}
