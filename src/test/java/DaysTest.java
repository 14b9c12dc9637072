/** Promises 15 to 21 and 42: DAYS that were, LANDS kept, LOTS. */
public final class DaysTest {
    private static final int NOTHING = 1;
    private static final Check CHECK = new Check();

    private static void day() {
        PaceBorder x = Check.land("s0s0w0r0b211");
        CHECK.due("day(1, 2) at a WALL", x.day(1, 2), 2);
        CHECK.due("day(1, 3) at a WALL", x.day(1, 3), 3);
        CHECK.due("day(0, 3) at a RIVER, DAY 2", x.day(0, 3), 4);
        CHECK.due("day(0, 3), it can't go on", x.day(0, 3), 4);
        CHECK.due("day(0, 0)", x.day(0, 0), 4);
        CHECK.due("day(3, 0) at a RIVER, DAY 5", x.day(3, 0), 4);
        CHECK.due("day(1, 0) at a RIVER, DAY 6", x.day(1, 0), 3);
        CHECK.due("day(3, 2) at a WALL", x.day(3, 2), 3);
        CHECK.due("day(3, 1) at a WALL", x.day(3, 1), 2);
        CHECK.due("day(1, 0)", x.day(1, 0), 1);
        CHECK.due("day(2, 1)", x.day(2, 1), 0);
        CHECK.due("day(3, 0), it can't go on", x.day(3, 0), 0);
        CHECK.due("day(4, 0)", x.day(4, 0), PaceBorder.BAD);
        CHECK.due("day(0, 4)", x.day(0, 4), PaceBorder.BAD);
        CHECK.due("day(-1, 0)", x.day(-1, 0), PaceBorder.BAD);
        CHECK.due("day(0, -1)", x.day(0, -1), PaceBorder.BAD);
        Check.days(x, 28, 0, 0);
        CHECK.due("count(1)", x.count(1), 40);
        CHECK.due("day(0, 0) behind 40", x.day(0, 0), PaceBorder.FULL);
        CHECK.due("day(4, 0) behind 40", x.day(4, 0), PaceBorder.BAD);
        CHECK.due("day(0, 0) without STRIPS", new PaceBorder().day(0, 0), PaceBorder.STATE);
        CHECK.due("day(9, 0) without STRIPS", new PaceBorder().day(9, 0), PaceBorder.BAD);
    }

    private static void townIsAWall() {
        PaceBorder x = Check.land("s0t0b111");
        CHECK.due("day(0, 1) at a TOWN", x.day(0, 1), 1);
        CHECK.due("day(0, 2) at a TOWN", x.day(0, 2), 2);
    }

    /** On the ninth the BORDER goes first, then it is paid. */
    private static void taxes() {
        PaceBorder x = Check.land("f3i4t5b135");
        Check.days(x, 9, 0, 0);
        CHECK.due("got(0) ahead of the ninth", x.got(0), 0);
        x.day(0, 1);
        CHECK.due("got(0): 3 x 3, 2 x 4 x 3, half of 15", x.got(0), 9 + 24 + 7);
        CHECK.due("got(1): half of 25", x.got(1), 12);
        x.rate(0, 1);
        Check.days(x, 1, 1, 0);
        Check.days(x, 8, 0, 0);
        CHECK.due("got(0) ahead of DAY 19", x.got(0), 40);
        x.day(0, 0);
        CHECK.due("got(0) behind DAY 19", x.got(0), 43);
        CHECK.due("got(1) behind DAY 19", x.got(1), 12 + 40);
        CHECK.due("undo(20)", x.undo(20), 0);
        CHECK.due("undo(19)", x.undo(19), 1);
        CHECK.due("got(0) undone", x.got(0), 40);
        CHECK.due("undo(9)", x.undo(9), 10);
        CHECK.due("got(0) undone", x.got(0), 0);
        CHECK.due("count(2): RATES stay", x.count(2), 1);
        CHECK.due("day(0, 0)", x.day(0, 0), 1);
        CHECK.due("got(0) by the new RATE", x.got(0), 3);
        CHECK.due("got(1): the INN, the TOWN is not at the BORDER", x.got(1), 40);
        CHECK.due("got(2)", x.got(2), PaceBorder.BAD);
        CHECK.due("got(-1)", x.got(-1), PaceBorder.BAD);
        CHECK.due("got(0) without STRIPS", new PaceBorder().got(0), 0);
    }

    private static void undo() {
        PaceBorder x = Check.land("s0s0s0b111");
        x.day(0, 1);
        x.day(0, 1);
        x.day(1, 0);
        CHECK.told(x, "strip(2, 5)", x.strip(2, 5), 2);
        CHECK.due("undo(4)", x.undo(4), PaceBorder.BAD);
        CHECK.due("undo(-1)", x.undo(-1), PaceBorder.BAD);
        CHECK.due("undo(3)", x.undo(3), 0);
        CHECK.due("undo(1)", x.undo(1), 2);
        CHECK.due("border()", x.border(), 2);
        CHECK.due("asked(): the DAY to come", x.asked(), 1);
        CHECK.told(x, "strip(2, 5) undone", x.strip(2, 5), 0);
        CHECK.told(x, "strip(1, 5)", x.strip(1, 5), 1);
        CHECK.due("undo(0)", x.undo(0), 1);
        CHECK.due("border()", x.border(), 1);
        CHECK.due("undo(0) without STRIPS", new PaceBorder().undo(0), 0);
    }

    private static void lain() {
        PaceBorder x = Check.land("s0s0s0b111");
        x.day(0, 1);
        x.day(0, 0);
        x.day(0, 1);
        int[] places = {1, 2, 2, 3};
        for (int d = 0; d < 4; d++) {
            CHECK.due("lain(" + d + ")", x.lain(d), places[d]);
        }
        CHECK.due("lain(4)", x.lain(4), PaceBorder.BAD);
        CHECK.due("lain(-1)", x.lain(-1), PaceBorder.BAD);
        CHECK.due("border() without STRIPS", new PaceBorder().border(), PaceBorder.STATE);
    }

    private static void keepAndOn() {
        PaceBorder x = Check.land("f1f1f1b111");
        CHECK.due("keep(0)", x.keep(0), 0);
        Check.days(x, 10, 0, 1);
        CHECK.due("keep(2)", x.keep(2), 10);
        x.rate(0, 9);
        x.undo(5);
        x.day(3, 0);
        CHECK.due("on(2)", x.on(2), 10);
        CHECK.due("border() as kept", x.border(), 3);
        CHECK.due("got(0) as kept", x.got(0), 3);
        CHECK.due("count(2) as kept", x.count(2), 1);
        CHECK.due("lain(1) as kept", x.lain(1), 2);
        x.day(1, 0);
        CHECK.due("on(2) again", x.on(2), 10);
        CHECK.due("on(0)", x.on(0), 0);
        CHECK.due("border() as kept", x.border(), 1);
        CHECK.due("count(8)", x.count(8), 2);
        CHECK.found(x, "on(1)", x.on(1), NOTHING);
        CHECK.due("on(3)", x.on(3), PaceBorder.BAD);
        CHECK.due("on(-1)", x.on(-1), PaceBorder.BAD);
        CHECK.due("keep(3)", x.keep(3), PaceBorder.BAD);
        CHECK.due("keep(-1)", x.keep(-1), PaceBorder.BAD);
        CHECK.due("keep(0) without STRIPS", new PaceBorder().keep(0), PaceBorder.STATE);
        PaceBorder none = new PaceBorder();
        CHECK.found(none, "on(0) without STRIPS", none.on(0), NOTHING);
    }

    private static void keepAllDays() {
        PaceBorder x = Check.land("f1f2i3b146");
        x.lots(20, 7);
        x.lots(20, 8);
        Check.days(x, 1, 0, 0);
        x.undo(38);
        x.day(0, 3);
        x.day(0, 3);
        CHECK.due("keep(0) of 40 DAYS", x.keep(0), 40);
        long was = x.digest();
        int[] places = new int[41];
        for (int d = 0; d <= 40; d++) {
            places[d] = x.lain(d);
        }
        x.undo(0);
        Check.days(x, 20, 3, 0);
        Check.days(x, 20, 1, 0);
        CHECK.due("on(0)", x.on(0), 40);
        CHECK.due("digest() as kept", x.digest(), was);
        for (int d = 0; d <= 40; d++) {
            CHECK.due("lain(" + d + ") as kept", x.lain(d), places[d]);
        }
        CHECK.due("kinds(0) by what was SAID, its own KIND among them", x.kinds(0) >> 1 & 1, 1);
        x.undo(39);
        CHECK.due("border() behind 39 DAYS", x.border(), places[39]);
    }

    /** The numbers of seed 1: 48271, 182605794, 1291394886, 1914720637. */
    private static void lots() {
        PaceBorder x = Check.land("s0s0s0s0s0s0b311");
        long[] numbers = {48271L, 182605794L, 1291394886L, 1914720637L};
        PaceBorder y = Check.land("s0s0s0s0s0s0b311");
        for (long number : numbers) {
            y.day((int) (number % 4), (int) (number / 16 % 4));
        }
        CHECK.due("lots(4, 1)", x.lots(4, 1), y.border());
        for (int d = 0; d <= 4; d++) {
            CHECK.due("lain(" + d + ") by lots", x.lain(d), y.lain(d));
        }
        CHECK.due("lots(0, 1)", x.lots(0, 1), PaceBorder.BAD);
        CHECK.due("lots(21, 1)", x.lots(21, 1), PaceBorder.BAD);
        CHECK.due("lots(1, 0)", x.lots(1, 0), PaceBorder.BAD);
        CHECK.due("lots(1, MAX)", x.lots(1, Integer.MAX_VALUE), PaceBorder.BAD);
        x.lots(20, 2147483646);
        CHECK.due("count(1)", x.count(1), 24);
        CHECK.due("lots(17, 5)", x.lots(17, 5), PaceBorder.FULL);
        CHECK.due("count(1) still", x.count(1), 24);
        x.lots(16, 5);
        CHECK.due("count(1) in the end", x.count(1), 40);
        CHECK.due("lots(0, 5) behind 40", x.lots(0, 5), PaceBorder.BAD);
        CHECK.due("lots(1, 1) without STRIPS", new PaceBorder().lots(1, 1), PaceBorder.STATE);
    }

    public static void main(String[] args) {
        day();
        townIsAWall();
        taxes();
        undo();
        lain();
        keepAndOn();
        keepAllDays();
        lots();
        CHECK.end();
    }
}
