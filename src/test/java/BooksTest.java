/** Promises 39 to 41: which law holds, what fits the books, of which KIND a STRIP was. */
public final class BooksTest {
    private static final int NOTHING = 1, UNLIKE = 3, SIZE = 5;
    private static final Check CHECK = new Check();

    private static void law() {
        PaceBorder x = Check.land("s0s0t0s0b111");
        x.day(0, 1);
        x.day(0, 2);
        x.day(0, 1);
        CHECK.due("law(1, 0)", x.law(1, 0), 2);
        CHECK.due("law(1, 1)", x.law(1, 1), 1);
        CHECK.due("law(2, 0): a TOWN far from the BORDER", x.law(2, 0), 2);
        CHECK.due("law(2, 1): the BORDER west of the TOWN", x.law(2, 1), 3);
        CHECK.due("law(2, 2): the BORDER east of the TOWN", x.law(2, 2), 3);
        CHECK.due("law(2, 3), the DAY to come", x.law(2, 3), 1);
        CHECK.due("law(2, 4)", x.law(2, 4), PaceBorder.STATE);
        CHECK.due("law(2, 40)", x.law(2, 40), PaceBorder.STATE);
        CHECK.due("law(2, 41): there is never such a DAY", x.law(2, 41), PaceBorder.BAD);
        CHECK.due("law(2, -1)", x.law(2, -1), PaceBorder.BAD);
        CHECK.due("law(4, 0)", x.law(4, 0), PaceBorder.BAD);
        CHECK.due("law(4, 9)", x.law(4, 9), PaceBorder.BAD);
        CHECK.due("law(0, 0) without STRIPS", new PaceBorder().law(0, 0), PaceBorder.BAD);
        x.undo(1);
        CHECK.due("law(2, 2), undone", x.law(2, 2), PaceBorder.STATE);
    }

    private static void books() {
        PaceBorder x = Check.land("s0s0w0s0b111");
        x.day(0, 1);
        x.day(1, 0);
        x.row(0, 0);
        CHECK.due("books(0), empty", x.books(0), 31);
        Check.fill(x, 0, 0, 1, 0);
        CHECK.due("books(0): STRIP 1 in the west ahead of DAY 0", x.books(0), 28);
        Check.fill(x, 0, 1, 1, 0);
        CHECK.due("books(0): ahead of DAY 1", x.books(0), 30);
        Check.fill(x, 0, 1, 1, 0, 2, 1, 1);
        CHECK.due("books(0): 2 ahead of DAY 1, and 1 ahead of DAY 2, or a WALL in between", x.books(0), 6);
        Check.fill(x, 0, 1, 1, 0, 1, 1, 1);
        CHECK.due("books(0), nothing fits", x.books(0), 0);
        Check.fill(x, 0, 2, 3, 1);
        CHECK.due("books(0), the DAY to come", x.books(0), 31);
        Check.fill(x, 0, 3, 1, 0);
        CHECK.found(x, "books(0), a DAY that was not", x.books(0), UNLIKE);
        Check.fill(x, 0, -1, 1, 0);
        CHECK.found(x, "books(0), DAY -1", x.books(0), UNLIKE);
        Check.fill(x, 0, 1, 4, 0);
        CHECK.found(x, "books(0), STRIP 4", x.books(0), UNLIKE);
        Check.fill(x, 0, 1, 0, 2);
        CHECK.found(x, "books(0), CROWN 2", x.books(0), UNLIKE);
        Check.fill(x, 0, 9, 9, 9, 9);
        CHECK.found(x, "books(0), not by threes", x.books(0), SIZE);
        CHECK.found(x, "books(1)", x.books(1), NOTHING);
        CHECK.due("books(6)", x.books(6), PaceBorder.BAD);
        CHECK.due("books(0) without STRIPS", new PaceBorder().books(0), PaceBorder.STATE);
    }

    private static void kinds() {
        PaceBorder x = Check.land("s0s0s0b111");
        CHECK.due("kinds(1) without DAYS", x.kinds(1), 63);
        x.day(0, 1);
        CHECK.due("kinds(1): no WALL, no TOWN", x.kinds(1), 27);
        x.day(0, 1);
        CHECK.due("kinds(2): nor a RIVER on DAY 1", x.kinds(2), 19);
        CHECK.due("kinds(0)", x.kinds(0), 63);
        CHECK.due("kinds(3)", x.kinds(3), PaceBorder.BAD);
        CHECK.due("kinds(-1)", x.kinds(-1), PaceBorder.BAD);
        CHECK.due("kinds(0) without STRIPS", new PaceBorder().kinds(0), PaceBorder.BAD);
        PaceBorder y = Check.land("s0w0b111");
        y.day(0, 1);
        CHECK.due("kinds(1): a WALL or a TOWN", y.kinds(1), 36);
    }

    public static void main(String[] args) {
        law();
        books();
        kinds();
        CHECK.end();
    }
}
