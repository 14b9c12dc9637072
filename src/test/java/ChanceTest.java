/** Promises 33 to 38: DAYS by CHANCE, and what to SAY. */
public final class ChanceTest {
    private static final Check CHECK = new Check();

    private static void odds() {
        PaceBorder x = Check.land("s0w0r0b111");
        CHECK.chance(x, "odds(1, 0)", x.odds(1, 0), 1, 1);
        CHECK.chance(x, "odds(0, 0)", x.odds(0, 0), 0, 1);
        CHECK.chance(x, "odds(0, 1): 6 of 16", x.odds(0, 1), 3, 8);
        CHECK.chance(x, "odds(2, 1): over a WALL 3 of 16", x.odds(2, 1), 3, 16);
        CHECK.chance(x, "odds(1, 1)", x.odds(1, 1), 7, 16);
        CHECK.chance(x, "odds(3, 2): a RIVER on DAY 1", x.odds(3, 2), 0, 1);
        CHECK.due("odds(4, 1)", x.odds(4, 1), PaceBorder.BAD);
        CHECK.due("odds(0, 7)", x.odds(0, 7), PaceBorder.BAD);
        CHECK.due("odds(0, -1)", x.odds(0, -1), PaceBorder.BAD);
        CHECK.due("odds(0, 1) without STRIPS", new PaceBorder().odds(0, 1), PaceBorder.STATE);
        long sum = 0;
        for (int to = 0; to <= 3; to++) {
            x.odds(to, 6);
            sum += x.upper() * (16777216 / x.lower());
        }
        CHECK.due("all odds together", sum, 16777216);
    }

    private static void met() {
        PaceBorder x = Check.land("s0s0b111");
        CHECK.chance(x, "met(1, 0): now, too", x.met(1, 0), 1, 1);
        CHECK.chance(x, "met(0, 0)", x.met(0, 0), 0, 1);
        CHECK.chance(x, "met(0, 1)", x.met(0, 1), 3, 8);
        CHECK.chance(x, "met(0, 2): 96 + 4 x 6 of 256", x.met(0, 2), 15, 32);
        CHECK.due("met(3, 1)", x.met(3, 1), PaceBorder.BAD);
        CHECK.due("met(0, 7)", x.met(0, 7), PaceBorder.BAD);
        CHECK.due("met(0, 1) without STRIPS", new PaceBorder().met(0, 1), PaceBorder.STATE);
    }

    private static void hedge() {
        PaceBorder x = Check.land("f3t5b112");
        CHECK.chance(x, "hedge(0, 6) far from the ninth", x.hedge(0, 6), 0, 1);
        Check.days(x, 9, 0, 0);
        CHECK.chance(x, "hedge(0, 1): 6 by 6 of 16, else 3", x.hedge(0, 1), 33, 8);
        CHECK.chance(x, "hedge(1, 1): 2 + 5, but for 6 of 16", x.hedge(1, 1), 35, 8);
        CHECK.chance(x, "hedge(0, 0)", x.hedge(0, 0), 0, 1);
        CHECK.due("hedge(2, 1)", x.hedge(2, 1), PaceBorder.BAD);
        CHECK.due("hedge(0, 7)", x.hedge(0, 7), PaceBorder.BAD);
        CHECK.due("hedge(0, -1)", x.hedge(0, -1), PaceBorder.BAD);
        CHECK.due("hedge(0, 1) without STRIPS", new PaceBorder().hedge(0, 1), PaceBorder.BAD);
    }

    /** With STRIPS alone each rudeness answered by the same one is worth nothing. */
    private static void game() {
        PaceBorder x = Check.land("s0s0s0b111");
        CHECK.told(x, "game(0, 9)", x.game(0, 9), -1);
        CHECK.told(x, "game(1, 0)", x.game(1, 0), -1);
        CHECK.due("said(1, 0)", x.said(1, 0), 0);
        CHECK.due("calm(1, 0)", x.calm(1, 0), 1);
        CHECK.told(x, "game(1, 9): rudeness is dear", x.game(1, 9), -1);
        CHECK.due("said(1, 9)", x.said(1, 9), 3);
        CHECK.due("calm(1, 9)", x.calm(1, 9), 0);
        CHECK.due("calm(0, 9)", x.calm(0, 9), 1);
        CHECK.due("game(5, 0)", x.game(5, 0), PaceBorder.BAD);
        CHECK.due("game(-1, 0)", x.game(-1, 0), PaceBorder.BAD);
        CHECK.due("game(1, 10)", x.game(1, 10), PaceBorder.BAD);
        CHECK.due("game(1, -1)", x.game(1, -1), PaceBorder.BAD);
        CHECK.due("said(0, 0)", x.said(0, 0), PaceBorder.BAD);
        CHECK.due("said(5, 0)", x.said(5, 0), PaceBorder.BAD);
        CHECK.due("calm(5, 0)", x.calm(5, 0), PaceBorder.BAD);
        PaceBorder none = new PaceBorder();
        CHECK.due("game(1, 0) without STRIPS", none.game(1, 0), PaceBorder.STATE);
        CHECK.due("said(1, 0) without STRIPS", none.said(1, 0), PaceBorder.STATE);
        CHECK.due("said(0, 0) without STRIPS", none.said(0, 0), PaceBorder.BAD);
        CHECK.due("calm(1, 0) without STRIPS", none.calm(1, 0), PaceBorder.STATE);
    }

    /** The whole tree, four DAYS deep, on a few LANDS. */
    private static void gamesAsTheModel() {
        String[] lands = {"s0s0b111", "w0t0s0b211", "r0s0w0r0b211", "s0r0t0s0b111", "t0t0b211"};
        for (String land : lands) {
            PaceBorder x = Check.land(land);
            Model m = new Model();
            m.text(0, land.length());
            for (int i = 0; i < land.length(); i++) {
                m.put(0, i, land.charAt(i));
            }
            m.land(0);
            for (int v = 0; v <= 9; v++) {
                for (int n = 0; n <= 4; n++) {
                    String call = "(" + n + ", " + v + ") on " + land;
                    m.game(n, v);
                    CHECK.told(x, "game" + call, x.game(n, v), m.asked);
                    CHECK.due("said" + call, x.said(n, v), m.said(n, v));
                    CHECK.due("calm" + call, x.calm(n, v), m.calm(n, v));
                }
            }
        }
    }

    /** Four DAYS of all that can be SAID. */
    private static void oddsAsTheModel() {
        String land = "f3w1r2t5i4b223";
        PaceBorder x = Check.land(land);
        Model m = new Model();
        m.text(0, land.length());
        for (int i = 0; i < land.length(); i++) {
            m.put(0, i, land.charAt(i));
        }
        m.land(0);
        for (int d = 0; d < 7; d++) {
            x.day(0, 0);
            m.day(0, 0);
        }
        for (int to = 0; to <= 5; to++) {
            m.odds(to, 4);
            CHECK.chance(x, "odds(" + to + ", 4)", x.odds(to, 4), m.upper, m.lower);
            m.met(to, 4);
            CHECK.chance(x, "met(" + to + ", 4)", x.met(to, 4), m.upper, m.lower);
        }
        for (int i = 0; i < 5; i++) {
            m.hedge(i, 4);
            CHECK.chance(x, "hedge(" + i + ", 4)", x.hedge(i, 4), m.upper, m.lower);
        }
    }

    public static void main(String[] args) {
        odds();
        met();
        hedge();
        game();
        gamesAsTheModel();
        oddsAsTheModel();
        CHECK.end();
    }
}
