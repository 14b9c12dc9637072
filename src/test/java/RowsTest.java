/** Promises 2 to 9: ROWS and TEXTS. */
public final class RowsTest {
    private static final int NOTHING = 1, BEYOND = 2, NOUGHT = 4, SIZE = 5;
    private static final Check CHECK = new Check();

    private static void row() {
        PaceBorder x = new PaceBorder();
        CHECK.due("row(0, 3)", x.row(0, 3), 3);
        CHECK.isRow(x, 0, 0, 0, 0);
        CHECK.due("row(5, 40)", x.row(5, 40), 40);
        CHECK.due("row(5, 0)", x.row(5, 0), 0);
        CHECK.isRow(x, 5);
        CHECK.due("row(6, 1)", x.row(6, 1), PaceBorder.BAD);
        CHECK.due("row(-1, 1)", x.row(-1, 1), PaceBorder.BAD);
        CHECK.due("row(0, 41)", x.row(0, 41), PaceBorder.BAD);
        CHECK.found(x, "row(0, -1)", x.row(0, -1), SIZE);
        CHECK.due("row(6, -1)", x.row(6, -1), PaceBorder.BAD);
        CHECK.isRow(x, 0, 0, 0, 0);
        x.lay(0, 1, 9);
        CHECK.due("row(0, 2) anew", x.row(0, 2), 2);
        CHECK.isRow(x, 0, 0, 0);
    }

    private static void layAndAt() {
        PaceBorder x = new PaceBorder();
        x.row(2, 3);
        CHECK.told(x, "lay(2, 1, 77)", x.lay(2, 1, 77), 0);
        CHECK.told(x, "lay(2, 1, MIN)", x.lay(2, 1, Integer.MIN_VALUE), 77);
        CHECK.told(x, "at(2, 1)", x.at(2, 1), Integer.MIN_VALUE);
        CHECK.due("lay(6, 0, 1)", x.lay(6, 0, 1), PaceBorder.BAD);
        CHECK.due("at(-1, 0)", x.at(-1, 0), PaceBorder.BAD);
        CHECK.found(x, "lay(3, 0, 1)", x.lay(3, 0, 1), NOTHING);
        CHECK.found(x, "at(3, 0)", x.at(3, 0), NOTHING);
        CHECK.found(x, "lay(2, 3, 1)", x.lay(2, 3, 1), BEYOND);
        CHECK.found(x, "lay(2, -1, 1)", x.lay(2, -1, 1), BEYOND);
        CHECK.found(x, "at(2, 3)", x.at(2, 3), BEYOND);
        CHECK.due("asked() behind what was refused", x.asked(), Integer.MIN_VALUE);
    }

    private static void tear() {
        PaceBorder x = new PaceBorder();
        x.row(1, 2);
        CHECK.due("tear(1)", x.tear(1), 1);
        CHECK.found(x, "tear(1) again", x.tear(1), NOTHING);
        CHECK.found(x, "at(1, 0)", x.at(1, 0), NOTHING);
        CHECK.due("tear(6)", x.tear(6), PaceBorder.BAD);
        CHECK.due("count(6)", x.count(6), 0);
    }

    private static void copy() {
        PaceBorder x = new PaceBorder();
        Check.fill(x, 0, 1, 2, 3, 4, 5);
        Check.fill(x, 1, 9, 9, 9);
        CHECK.due("copy(0, 3, 1, 1, 2)", x.copy(0, 3, 1, 1, 2), 1);
        CHECK.isRow(x, 1, 9, 4, 5);
        CHECK.due("copy(0, 0, 0, 1, 4)", x.copy(0, 0, 0, 1, 4), 1);
        CHECK.isRow(x, 0, 1, 1, 2, 3, 4);
        CHECK.due("copy(0, 1, 0, 0, 4)", x.copy(0, 1, 0, 0, 4), 1);
        CHECK.isRow(x, 0, 1, 2, 3, 4, 4);
        CHECK.due("copy(0, 5, 1, 3, 0)", x.copy(0, 5, 1, 3, 0), 1);
        CHECK.found(x, "copy(0, 6, 1, 0, 0)", x.copy(0, 6, 1, 0, 0), BEYOND);
        CHECK.found(x, "copy(0, 4, 1, 0, 2)", x.copy(0, 4, 1, 0, 2), BEYOND);
        CHECK.found(x, "copy(0, 0, 1, 2, 2)", x.copy(0, 0, 1, 2, 2), BEYOND);
        CHECK.found(x, "copy(0, -1, 1, 0, 1)", x.copy(0, -1, 1, 0, 1), BEYOND);
        CHECK.found(x, "copy(0, 1, 1, 0, MAX)", x.copy(0, 1, 1, 0, Integer.MAX_VALUE), BEYOND);
        CHECK.found(x, "copy(0, MAX, 1, 0, 1)", x.copy(0, Integer.MAX_VALUE, 1, 0, 1), BEYOND);
        CHECK.found(x, "copy(0, 0, 2, 0, 1)", x.copy(0, 0, 2, 0, 1), NOTHING);
        CHECK.found(x, "copy(2, 0, 0, 0, 1)", x.copy(2, 0, 0, 0, 1), NOTHING);
        CHECK.found(x, "copy(2, 0, 0, 0, -1)", x.copy(2, 0, 0, 0, -1), SIZE);
        CHECK.due("copy(6, 0, 0, 0, -1)", x.copy(6, 0, 0, 0, -1), PaceBorder.BAD);
        CHECK.due("copy(0, 0, 6, 0, 1)", x.copy(0, 0, 6, 0, 1), PaceBorder.BAD);
        CHECK.isRow(x, 1, 9, 4, 5);
    }

    private static void mean() {
        PaceBorder x = new PaceBorder();
        Check.fill(x, 0, 1, 2, 2);
        CHECK.told(x, "mean(0)", x.mean(0), 1);
        Check.fill(x, 0, -1, -2, -2);
        CHECK.told(x, "mean(0), cut below 0", x.mean(0), -1);
        Check.fill(x, 0, Integer.MAX_VALUE, Integer.MAX_VALUE);
        CHECK.told(x, "mean(0) of large ones", x.mean(0), Integer.MAX_VALUE);
        x.row(1, 0);
        CHECK.found(x, "mean(1)", x.mean(1), NOUGHT);
        CHECK.found(x, "mean(2)", x.mean(2), NOTHING);
        CHECK.due("mean(6)", x.mean(6), PaceBorder.BAD);
    }

    private static void texts() {
        PaceBorder x = new PaceBorder();
        CHECK.due("text(3, 60)", x.text(3, 60), 60);
        CHECK.due("text(4, 1)", x.text(4, 1), PaceBorder.BAD);
        CHECK.due("text(0, 61)", x.text(0, 61), PaceBorder.BAD);
        CHECK.found(x, "text(0, -1)", x.text(0, -1), SIZE);
        CHECK.due("put(3, 59, 115)", x.put(3, 59, 115), 1032);
        CHECK.due("put(3, 59, 200)", x.put(3, 59, 200), 1115);
        CHECK.due("put(3, 59, 256 + 7), a byte below 0 was there", x.put(3, 59, 263), 944);
        CHECK.due("put(3, 59, 0)", x.put(3, 59, 0), 1007);
        CHECK.due("put(4, 0, 0)", x.put(4, 0, 0), PaceBorder.BAD);
        CHECK.found(x, "put(0, 0, 0)", x.put(0, 0, 0), NOTHING);
        CHECK.found(x, "put(3, 60, 0)", x.put(3, 60, 0), BEYOND);
        CHECK.found(x, "put(3, -1, 0)", x.put(3, -1, 0), BEYOND);
        x.put(3, 0, 115);
        x.text(3, 2);
        CHECK.due("put(3, 0, 1) into blanks anew", x.put(3, 0, 1), 1032);
    }

    public static void main(String[] args) {
        row();
        layAndAt();
        tear();
        copy();
        mean();
        texts();
        CHECK.end();
    }
}
