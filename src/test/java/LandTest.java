/** Promises 1 and 10 to 14: LANDS and STRIPS. */
public final class LandTest {
    private static final int NOTHING = 1, UNLIKE = 3;
    private static final Check CHECK = new Check();

    private static void faultOf(String text, int want) {
        PaceBorder x = new PaceBorder();
        Check.write(x, 0, text);
        CHECK.due("fault of '" + text + "'", x.fault(0), want);
        int strips = text.replace(" ", "").indexOf('b') / 2;
        CHECK.due("land of '" + text + "'", x.land(0), want == PaceBorder.NONE ? strips : PaceBorder.STATE);
    }

    private static void faults() {
        faultOf("f1s2b111", PaceBorder.NONE);
        faultOf("  f1  s2 b111   ", PaceBorder.NONE);
        faultOf("f1s2b299", PaceBorder.NONE);
        faultOf("s0s0s0s0s0s0s0s0s0s0s0s0b911", PaceBorder.NONE);
        faultOf("", 0);
        faultOf("    ", 4);
        faultOf("f1", 2);
        faultOf("f1s", 3);
        faultOf("f1s2b", 5);
        faultOf("f1s2b11", 7);
        faultOf("f1s2  ", 6);
        faultOf("f 1s2b111", 1);
        faultOf("f1x2b111", 2);
        faultOf("f1F2b111", 2);
        faultOf("f1s:b111", 3);
        faultOf("f1s/b111", 3);
        faultOf("b111", 0);
        faultOf("f1b111", 2);
        faultOf("f1s2b311", 5);
        faultOf("f1s2b 11", 5);
        faultOf("f1s2b2 11", 6);
        faultOf("f1s2b201", 6);
        faultOf("f1s2b210", 7);
        faultOf("f1s2b111f", 8);
        faultOf("f1s2b111 1", 9);
        faultOf("s0s0s0s0s0s0s0s0s0s0s0s0s0b911", 24);
        faultOf("s0s0s0s0s0s0s0s0s0s0s0s0 x", 25);
        faultOf("f1s2" + (char) 0 + "b111", 4);
        PaceBorder x = new PaceBorder();
        CHECK.found(x, "fault(0)", x.fault(0), NOTHING);
        CHECK.due("fault(4)", x.fault(4), PaceBorder.BAD);
        CHECK.due("fault(-1)", x.fault(-1), PaceBorder.BAD);
    }

    private static void fresh() {
        PaceBorder x = new PaceBorder();
        for (int what = 0; what <= 8; what++) {
            CHECK.due("count(" + what + ") of a new object", x.count(what), 0);
        }
        CHECK.due("lain(0) of a new object", x.lain(0), 0);
        CHECK.due("border() of a new object", x.border(), PaceBorder.STATE);
    }

    private static void land() {
        PaceBorder x = new PaceBorder();
        CHECK.found(x, "land(0)", x.land(0), NOTHING);
        CHECK.due("land(4)", x.land(4), PaceBorder.BAD);
        Check.write(x, 0, "f1i2b112");
        CHECK.due("land(0)", x.land(0), 2);
        Check.days(x, 10, 0, 3);
        x.keep(1);
        x.text(1, 3);
        CHECK.due("land(1), a FAULT", x.land(1), PaceBorder.STATE);
        CHECK.due("count(1) behind it", x.count(1), 10);
        CHECK.due("count(8) behind it", x.count(8), 1);
        Check.write(x, 2, "s1f2f3b134");
        CHECK.due("land(2)", x.land(2), 3);
        CHECK.due("count(1) anew", x.count(1), 0);
        CHECK.due("count(8) anew", x.count(8), 0);
        CHECK.due("got(0) anew", x.got(0), 0);
        CHECK.due("count(2)", x.count(2), 3);
        CHECK.due("count(3)", x.count(3), 4);
        CHECK.due("border()", x.border(), 1);
        CHECK.found(x, "on(1), gone", x.on(1), NOTHING);
    }

    private static void strip() {
        PaceBorder x = Check.land("s1f2w3r4i5t6b345");
        for (int i = 0; i < 6; i++) {
            CHECK.told(x, "the KIND of " + i, x.strip(i, 0), i);
            CHECK.told(x, "the DUE of " + i, x.strip(i, 1), i + 1);
            CHECK.told(x, "the CROWN of " + i, x.strip(i, 2), i < 3 ? 0 : 1);
        }
        Check.days(x, 1, 0, 1);
        Check.days(x, 1, 1, 0);
        CHECK.told(x, "strip(3, 5): a RIVER on DAYS 0 and 1", x.strip(3, 5), 1);
        Check.days(x, 8, 0, 0);
        CHECK.told(x, "strip(1, 3)", x.strip(1, 3), 8);
        CHECK.told(x, "strip(1, 4)", x.strip(1, 4), 0);
        CHECK.told(x, "strip(4, 3)", x.strip(4, 3), 0);
        CHECK.told(x, "strip(4, 4)", x.strip(4, 4), 50);
        CHECK.due("strip(6, 0)", x.strip(6, 0), PaceBorder.BAD);
        CHECK.due("strip(-1, 0)", x.strip(-1, 0), PaceBorder.BAD);
        CHECK.due("strip(0, 6)", x.strip(0, 6), PaceBorder.BAD);
        CHECK.due("strip(0, -1)", x.strip(0, -1), PaceBorder.BAD);
        CHECK.due("strip(0, 0) without STRIPS", new PaceBorder().strip(0, 0), PaceBorder.BAD);
    }

    private static void mark() {
        PaceBorder x = Check.land("f3i4w0r0t5b435");
        CHECK.due("mark(0, 1)", x.mark(0, 1), 9);
        CHECK.due("mark(1, 1), an INN", x.mark(1, 1), 24);
        CHECK.due("mark(1, 4)", x.mark(1, 4), 12);
        CHECK.due("mark(2, 2)", x.mark(2, 2), 0);
        CHECK.due("mark(3, 3) on an even DAY", x.mark(3, 3), 1);
        CHECK.due("mark(4, 2), a TOWN", x.mark(4, 2), 1);
        CHECK.due("mark(4, 5): 15 and 25, each half and cut", x.mark(4, 5), 19);
        CHECK.found(x, "mark(0, 4): a FARM is no INN", x.mark(0, 4), UNLIKE);
        CHECK.found(x, "mark(2, 5): a WALL is no TOWN", x.mark(2, 5), UNLIKE);
        CHECK.found(x, "mark(3, 1)", x.mark(3, 1), UNLIKE);
        CHECK.due("mark(0, 0)", x.mark(0, 0), PaceBorder.BAD);
        CHECK.due("mark(0, 6)", x.mark(0, 6), PaceBorder.BAD);
        CHECK.due("mark(5, 1)", x.mark(5, 1), PaceBorder.BAD);
        x.day(0, 3);
        CHECK.due("mark(4, 5) on its other side", x.mark(4, 5), 19);
        CHECK.due("mark(3, 3) on an odd DAY", x.mark(3, 3), 0);
        x.day(3, 0);
        x.day(1, 0);
        CHECK.due("mark(4, 5), the BORDER being elsewhere", x.mark(4, 5), 0);
        CHECK.due("mark(4, 2), the BORDER being elsewhere", x.mark(4, 2), 0);
        CHECK.due("mark(2, 2), the BORDER to the east of it", x.mark(2, 2), 1);
        x.day(2, 0);
        CHECK.due("mark(2, 2), the BORDER to the west of it", x.mark(2, 2), 1);
        x.day(1, 0);
        CHECK.due("mark(1, 1), of the other CROWN", x.mark(1, 1), 40);
    }

    private static void rate() {
        PaceBorder x = Check.land("f3f4b126");
        CHECK.due("rate(0, 9)", x.rate(0, 9), 2);
        CHECK.due("rate(0, 1)", x.rate(0, 1), 9);
        CHECK.due("rate(1, 7)", x.rate(1, 7), 6);
        CHECK.due("rate(1, 0)", x.rate(1, 0), PaceBorder.BAD);
        CHECK.due("rate(1, 10)", x.rate(1, 10), PaceBorder.BAD);
        CHECK.due("rate(2, 1)", x.rate(2, 1), PaceBorder.BAD);
        CHECK.due("rate(-1, 1)", x.rate(-1, 1), PaceBorder.BAD);
        CHECK.due("count(2)", x.count(2), 1);
        CHECK.due("count(3)", x.count(3), 7);
        CHECK.due("rate(0, 1) without STRIPS", new PaceBorder().rate(0, 1), PaceBorder.STATE);
        CHECK.due("rate(0, 0) without STRIPS", new PaceBorder().rate(0, 0), PaceBorder.BAD);
    }

    public static void main(String[] args) {
        faults();
        fresh();
        land();
        strip();
        mark();
        rate();
        CHECK.end();
    }
}
