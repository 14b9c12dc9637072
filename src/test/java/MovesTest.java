/** Promises 22 to 32: MOVES to come, and DUES. */
public final class MovesTest {
    private static final int NOTHING = 1, UNLIKE = 3;
    private static final String RIVERS = "r0r0r0r0r0r0r0r0r0r0r0r0b011";
    private static final Check CHECK = new Check();

    private static void moves() {
        CHECK.due("moves() without STRIPS", new PaceBorder().moves(), PaceBorder.STATE);
        CHECK.due("moves() in the west", Check.land("s0s0b011").moves(), 6);
        CHECK.due("moves() in the east", Check.land("s0s0b211").moves(), 3);
        CHECK.due("moves() between WALLS", Check.land("w0t0b111").moves(), 7);
        PaceBorder x = Check.land("r0s0b111");
        CHECK.due("moves() at a RIVER, DAY 0", x.moves(), 7);
        x.day(0, 0);
        CHECK.due("moves() at a RIVER, DAY 1", x.moves(), 6);
        Check.days(x, 39, 0, 0);
        CHECK.due("moves() behind 40 DAYS", x.moves(), 7);
    }

    private static void judgeAndRude() {
        PaceBorder x = Check.land("s0w0r0s0b111");
        Check.fill(x, 0, 1, 0, 1, 1);
        CHECK.due("judge(0)", x.judge(0), 4);
        CHECK.due("asked()", x.asked(), 4);
        CHECK.due("rude(0): a WALL is 2", x.rude(0), 4);
        Check.fill(x, 0, 1, 1, 1);
        CHECK.due("judge(0): a RIVER on DAY 1", x.judge(0), 1);
        CHECK.due("asked()", x.asked(), 2);
        CHECK.found(x, "rude(0)", x.rude(0), UNLIKE);
        Check.fill(x, 0, 1, 1, 2);
        CHECK.found(x, "judge(0), no MOVE behind one that can't be", x.judge(0), UNLIKE);
        CHECK.due("asked() still", x.asked(), 0);
        CHECK.found(x, "rude(0), no MOVE", x.rude(0), UNLIKE);
        x.row(0, 0);
        CHECK.due("judge(0) of none", x.judge(0), 0);
        CHECK.due("asked()", x.asked(), 1);
        CHECK.due("rude(0) of none", x.rude(0), 0);
        CHECK.found(x, "judge(1)", x.judge(1), NOTHING);
        CHECK.found(x, "rude(1)", x.rude(1), NOTHING);
        CHECK.due("judge(6)", x.judge(6), PaceBorder.BAD);
        CHECK.due("rude(-1)", x.rude(-1), PaceBorder.BAD);
        CHECK.due("judge(0) without STRIPS", new PaceBorder().judge(0), PaceBorder.STATE);
        CHECK.due("rude(0) without STRIPS", new PaceBorder().rude(0), PaceBorder.STATE);
        CHECK.due("border() is as it was", x.border(), 1);
    }

    private static void pays() {
        PaceBorder x = Check.land("f3i4t5b135");
        x.row(0, 10);
        CHECK.due("pays(1, 0)", x.pays(1, 0), 40);
        x.lay(0, 9, 1);
        CHECK.due("pays(1, 0), having crossed it on the ninth", x.pays(1, 0), 24);
        CHECK.due("pays(2, 0): a TOWN, both together", x.pays(2, 0), 19);
        x.row(0, 9);
        CHECK.due("pays(1, 0) ahead of the ninth", x.pays(1, 0), 0);
        Check.days(x, 30, 0, 0);
        x.row(0, 40);
        CHECK.due("pays(0, 0): on DAY 39, none beyond", x.pays(0, 0), 9);
        x.lay(0, 5, 3);
        CHECK.found(x, "pays(0, 0), no MOVE", x.pays(0, 0), UNLIKE);
        Check.fill(x, 0, -1, -1);
        CHECK.found(x, "pays(0, 0), one that can't be", x.pays(0, 0), UNLIKE);
        CHECK.found(x, "pays(0, 1)", x.pays(0, 1), NOTHING);
        CHECK.due("pays(3, 0)", x.pays(3, 0), PaceBorder.BAD);
        CHECK.due("pays(0, 6)", x.pays(0, 6), PaceBorder.BAD);
        CHECK.due("pays(0, 0) without STRIPS", new PaceBorder().pays(0, 0), PaceBorder.BAD);
    }

    private static void soonest() {
        PaceBorder x = Check.land("s0r0w0s0b011");
        CHECK.due("soonest(2, 0): DAY 1 is odd", x.soonest(2, 0), 3);
        CHECK.isRow(x, 0, 0, 1, 1);
        CHECK.due("soonest(0, 0)", x.soonest(0, 0), 0);
        CHECK.isRow(x, 0);
        PaceBorder y = Check.land(RIVERS);
        CHECK.due("soonest(10, 3)", y.soonest(10, 3), 19);
        CHECK.due("soonest(11, 3): DAYS 0, 2, .. 20 would be 21", y.soonest(11, 3), PaceBorder.NONE);
        CHECK.told(y, "at(3, 18), the ROW is as it was", y.at(3, 18), 1);
        CHECK.due("soonest(13, 3)", y.soonest(13, 3), PaceBorder.BAD);
        CHECK.due("soonest(-1, 3)", y.soonest(-1, 3), PaceBorder.BAD);
        CHECK.due("soonest(0, 6)", y.soonest(0, 6), PaceBorder.BAD);
        CHECK.due("soonest(0, 0) without STRIPS", new PaceBorder().soonest(0, 0), PaceBorder.STATE);
        y.day(0, 0);
        CHECK.due("soonest(10, 3) from DAY 1 on", y.soonest(10, 3), 20);
    }

    private static void polite() {
        PaceBorder x = Check.land("s0r0w0s0b011");
        CHECK.due("polite(2, 5, 0)", x.polite(2, 5, 0), 2);
        CHECK.isRow(x, 0, 0, 0, 0, 1, 1);
        CHECK.due("polite(3, 5, 0)", x.polite(3, 5, 0), 4);
        CHECK.isRow(x, 0, 0, 1, 1, 0, 1);
        CHECK.due("polite(0, 0, 0)", x.polite(0, 0, 0), 0);
        CHECK.isRow(x, 0);
        x.row(0, 1);
        CHECK.due("polite(2, 2, 0)", x.polite(2, 2, 0), PaceBorder.NONE);
        CHECK.isRow(x, 0, 0);
        CHECK.due("polite(5, 2, 0)", x.polite(5, 2, 0), PaceBorder.BAD);
        CHECK.due("polite(0, 21, 0)", x.polite(0, 21, 0), PaceBorder.BAD);
        CHECK.due("polite(0, -1, 0)", x.polite(0, -1, 0), PaceBorder.BAD);
        CHECK.due("polite(0, 1, 6)", x.polite(0, 1, 6), PaceBorder.BAD);
        CHECK.due("polite(0, 1, 0) without STRIPS", new PaceBorder().polite(0, 1, 0), PaceBorder.STATE);
        CHECK.due("polite(0, 20, 0)", x.polite(0, 20, 0), 0);
    }

    private static void waysAndReach() {
        PaceBorder x = Check.land("s0s0b111");
        CHECK.chance(x, "ways(1, 0)", x.ways(1, 0), 1, 1);
        CHECK.chance(x, "ways(0, 0)", x.ways(0, 0), 0, 1);
        CHECK.chance(x, "ways(1, 2): staying, west and back, east and back", x.ways(1, 2), 3, 1);
        CHECK.chance(x, "ways(0, 2)", x.ways(0, 2), 2, 1);
        CHECK.due("reach(0)", x.reach(0), 2);
        CHECK.due("reach(1)", x.reach(1), 7);
        CHECK.due("ways(3, 2)", x.ways(3, 2), PaceBorder.BAD);
        CHECK.due("ways(0, 21)", x.ways(0, 21), PaceBorder.BAD);
        CHECK.due("reach(21)", x.reach(21), PaceBorder.BAD);
        CHECK.due("reach(-1)", x.reach(-1), PaceBorder.BAD);
        CHECK.due("ways(0, 1) without STRIPS", new PaceBorder().ways(0, 1), PaceBorder.STATE);
        CHECK.due("reach(1) without STRIPS", new PaceBorder().reach(1), PaceBorder.STATE);
        PaceBorder y = Check.land(RIVERS);
        CHECK.due("reach(4) over RIVERS", y.reach(4), 7);
        PaceBorder z = Check.land("s0s0s0s0s0s0s0s0s0s0s0s0b611");
        long all = 0;
        for (int to = 0; to <= 12; to++) {
            z.ways(to, 6);
            all += z.upper();
        }
        CHECK.due("all ways of 6 from the middle: 3 to the 6th", all, 729);
        CHECK.due("reach(20)", z.reach(20), 8191);
    }

    private static void least() {
        PaceBorder x = Check.land("f3f4b151");
        CHECK.due("least(0, 10, 0): the cheaper CROWN in time", x.least(0, 10, 0), 3);
        CHECK.isRow(x, 0, -1, 0, 0, 0, 0, 0, 0, 0, 0, 0);
        CHECK.due("least(1, 10, 0)", x.least(1, 10, 0), 4);
        CHECK.isRow(x, 0, -1, 0, 0, 0, 0, 0, 0, 0, 0, 0);
        CHECK.due("least(1, 0, 0)", x.least(1, 0, 0), 0);
        CHECK.isRow(x, 0);
        Check.days(x, 9, 0, 0);
        x.rate(0, 1);
        x.rate(1, 9);
        CHECK.due("least(1, 1, 0)", x.least(1, 1, 0), 4);
        CHECK.isRow(x, 0, 1);
        CHECK.due("least(1, 20, 0)", x.least(1, 20, 0), 8);
        CHECK.due("least(2, 1, 0)", x.least(2, 1, 0), PaceBorder.BAD);
        CHECK.due("least(0, 21, 0)", x.least(0, 21, 0), PaceBorder.BAD);
        CHECK.due("least(0, 1, 6)", x.least(0, 1, 6), PaceBorder.BAD);
        CHECK.due("least(0, 1, 0) without STRIPS", new PaceBorder().least(0, 1, 0), PaceBorder.BAD);
    }

    private static void mostAndNow() {
        PaceBorder x = Check.land("f3t5i4b123");
        CHECK.due("now(): 3 x 2, half of 10", x.now(), 11);
        CHECK.due("asked(): half of 15, 2 x 4 x 3", x.asked(), 31);
        CHECK.due("most(0, 9)", x.most(0, 9), 0);
        CHECK.due("most(0, 10): all of it, the TOWN not", x.most(0, 10), 22);
        CHECK.due("most(1, 10): all of it, the TOWN not, or the TOWN and the INN", x.most(1, 10), 33);
        CHECK.due("most(1, 20)", x.most(1, 20), 66);
        CHECK.due("most(2, 1)", x.most(2, 1), PaceBorder.BAD);
        CHECK.due("most(0, 21)", x.most(0, 21), PaceBorder.BAD);
        CHECK.due("most(0, 1) without STRIPS", new PaceBorder().most(0, 1), PaceBorder.STATE);
        CHECK.due("now() without STRIPS", new PaceBorder().now(), PaceBorder.STATE);
        Check.days(x, 31, 0, 0);
        CHECK.due("most(0, 20): DAY 39, not 49", x.most(0, 20), 22);
    }

    /** Rows too long to be tried one by one: what is laid must do what was answered. */
    private static void longRows() {
        PaceBorder x = Check.land("f3w1r2i4t5f2r1s1b423");
        CHECK.due("polite(1, 20, 0): an INN aside, a RIVER and a WALL", x.polite(1, 20, 0), 4);
        for (int n = 0; n <= 20; n++) {
            for (int to = 0; to <= 8; to++) {
                int rudeness = x.polite(to, n, 0);
                if (rudeness == PaceBorder.NONE) {
                    CHECK.due("reach(" + n + ") without " + to, x.reach(n) >> to & 1, 0);
                    continue;
                }
                CHECK.due("reach(" + n + ") with " + to, x.reach(n) >> to & 1, 1);
                CHECK.due("judge() of polite()", x.judge(0), n);
                CHECK.due("where it is then", x.asked(), to);
                CHECK.due("rude() of polite()", x.rude(0), rudeness);
            }
            for (int i = 0; i < 8; i++) {
                int paid = x.least(i, n, 1);
                CHECK.due("judge() of least()", x.judge(1), n);
                CHECK.due("pays() of least()", x.pays(i, 1), paid);
            }
        }
    }

    public static void main(String[] args) {
        longRows();
        moves();
        judgeAndRude();
        pays();
        soonest();
        polite();
        waysAndReach();
        least();
        mostAndNow();
        CHECK.end();
    }
}
