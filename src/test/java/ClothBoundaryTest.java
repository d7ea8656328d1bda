/** The boundary cases of 'Cloth' and of the promises 1 to 5; the tests' names and texts follow the sentences. */
public final class ClothBoundaryTest {
    private static final Check CHECK = new Check("ClothBoundaryTest");

    private ClothBoundaryTest() {
    }

    public static void main(String[] args) {
        firstCloth();
        emptyAtFirst();
        widthFrom2To12();
        stripeNumberFrom0To6();
        noNumberOutside();
        clothIsSetWithoutPiecesAndFlaws();
        sixtyRows();
        columnsOfEachWidth();
        remaindersOfEachStripeNumber();
        clothIsFoldedWithoutPieces();
        cellsThatCanHaveFlaws();
        flawsOnTheFold();
        eachToldCellCounts();
        twelveFlaws();
        twelveFlawsOnTheFold();
        noFlawUnderPieces();
        noFlawUnderPiecesOnTheFold();
        flawsAreForgotten();
        CHECK.end();
    }

    private static char reasonAt(CuttingRoom room, int shape, int row, int column) {
        return room.reason(shape, 0, row, column, false);
    }

    /** "12 at first .. at first it has no nap, it is open, and the stripe number is 0". */
    private static void firstCloth() {
        CuttingRoom room = new CuttingRoom();
        int cell = Rooms.shape(room, 'q', true, "00");
        CHECK.due("12 columns at first", '-', reasonAt(room, cell, 0, 11));
        CHECK.due("12 columns at first", 'o', reasonAt(room, cell, 0, 12));
        CHECK.due("no nap at first", '-', room.reason(cell, 1, 0, 0, false));
        CHECK.due("open at first, so pieces can be mirrored", '-', room.reason(cell, 0, 0, 0, true));
        room.setMark(cell, 0, 0, 0);
        room.lay(cell, 0, 0, 0, false);
        for (int row = 1; row < 13; row++) {
            CHECK.due("no stripes at first, row " + row, '-', reasonAt(room, cell, row, 0));
        }
        CHECK.dueThrow("the stripe number is 0 at first", Rooms.STATE, () -> room.phase(0));
        room.clear();
        CHECK.due("open at first", false, room.fold(false));
        CHECK.due("the width at first", 12, room.setCloth(12, false, 0));
    }

    /** Promise 1: "without shapes, styles and cloth on the roll". */
    private static void emptyAtFirst() {
        CuttingRoom room = new CuttingRoom();
        for (int i = 0; i < 8; i++) {
            int number = i;
            CHECK.dueThrow("no shape at first, " + i, Rooms.INDEX, () -> room.cellsOf(number));
            CHECK.dueThrow("no style at first, " + i, Rooms.INDEX, () -> room.made(number));
            CHECK.dueThrow("no piece at first, " + i, Rooms.ELEMENT, () -> room.rowOf(number));
        }
        CHECK.due("no cloth on the roll at first", 0, room.roll());
        CHECK.due("no piece was cut at first", 0L, room.cut());
        CHECK.due("no piece at first", 0, room.inMarker());
        CHECK.due("no length at first", 0, room.length());
        CHECK.due("no cell at first", 0, room.used());
        CHECK.due("sound at first", true, room.isSound());
        CHECK.due("no flaw at first", 0, room.clearFlaws());
        CHECK.due("nothing to clear at first", 0, room.clear());
        CHECK.due("the first shape", 0, room.addShape('n', false));
        CHECK.due("the first style", 0, room.addStyle());
    }

    /** "a width from 2 to 12 columns"; promise 2: "the width before the call". */
    private static void widthFrom2To12() {
        CuttingRoom room = new CuttingRoom();
        int before = 12;
        for (int width = 2; width <= 12; width++) {
            CHECK.due("the width before " + width, before, room.setCloth(width, false, 0));
            before = width;
        }
        CHECK.due("the width before 2", 12, room.setCloth(2, true, 6));
        CHECK.due("the width before 2 again", 2, room.setCloth(2, false, 0));
    }

    /** "a stripe number from 0 to 6". */
    private static void stripeNumberFrom0To6() {
        CuttingRoom room = new CuttingRoom();
        int cell = Rooms.shape(room, 'n', false, "00");
        room.setMark(cell, 3, 0, 0);
        for (int stripes = 0; stripes <= 6; stripes++) {
            CHECK.due("the width stays", 12, room.setCloth(12, false, stripes));
            room.lay(cell, 0, 59, 0, false);
            CHECK.due("row 59 by " + stripes, stripes < 2 ? "throws.IllegalStateException" : "" + 59 % stripes,
                    Rooms.outcome(() -> room.phase(3)));
            room.clear();
        }
    }

    /** Promise 2: "if a number is out of range"; what was set before stays. */
    private static void noNumberOutside() {
        CuttingRoom room = new CuttingRoom();
        int cell = Rooms.shape(room, 'q', false, "00");
        room.setMark(cell, 0, 0, 0);
        room.setCloth(5, true, 4);
        CHECK.dueThrowEach("width", Rooms.outside(2, 12), Rooms.ARGUMENT, width -> room.setCloth(width, false, 0));
        CHECK.dueThrowEach("stripe number", Rooms.outside(0, 6), Rooms.ARGUMENT,
                stripes -> room.setCloth(12, false, stripes));
        CHECK.dueThrow("both", Rooms.ARGUMENT, () -> room.setCloth(13, false, 7));
        CHECK.due("the width stays", '-', reasonAt(room, cell, 0, 4));
        CHECK.due("the width stays", 'o', reasonAt(room, cell, 0, 5));
        CHECK.due("the nap stays", 't', room.reason(cell, 1, 0, 0, false));
        room.lay(cell, 0, 7, 0, false);
        CHECK.due("the stripe number stays", 3, room.phase(0));
        room.clear();
        CHECK.due("the width stays", 5, room.setCloth(12, false, 0));
    }

    /** Promise 2: "if the marker is not empty, or there are flaws". */
    private static void clothIsSetWithoutPiecesAndFlaws() {
        CuttingRoom room = new CuttingRoom();
        int cell = Rooms.shape(room, 'n', false, "00");
        room.nest(cell, false);
        CHECK.dueThrow("one piece", Rooms.STATE, () -> room.setCloth(12, false, 0));
        room.nest(cell, false);
        room.takeOff(0);
        CHECK.dueThrow("one piece is left", Rooms.STATE, () -> room.setCloth(12, false, 0));
        room.takeOff(1);
        CHECK.due("the last one is taken off", 12, room.setCloth(11, false, 0));
        Rooms.nest(room, cell, false, Rooms.MARKER);
        CHECK.dueThrow("40 pieces", Rooms.STATE, () -> room.setCloth(12, false, 0));
        room.clear();
        CHECK.due("the marker is cleared", 11, room.setCloth(10, false, 0));
        room.addFlaw(59, 9);
        CHECK.dueThrow("one flaw", Rooms.STATE, () -> room.setCloth(10, false, 0));
        room.nest(cell, false);
        CHECK.dueThrow("a piece and a flaw", Rooms.STATE, () -> room.setCloth(10, false, 0));
        room.clearFlaws();
        CHECK.dueThrow("the piece is left", Rooms.STATE, () -> room.setCloth(10, false, 0));
        room.clear();
        for (int row = 0; row < 12; row++) {
            room.addFlaw(row, 0);
        }
        CHECK.dueThrow("12 flaws", Rooms.STATE, () -> room.setCloth(10, false, 0));
        room.clearFlaws();
        CHECK.due("the flaws are forgotten", 10, room.setCloth(9, false, 0));
        room.fold(true);
        CHECK.due("folded cloth can be set", 9, room.setCloth(8, false, 0));
        CHECK.due("setCloth does not open it", true, room.fold(true));
    }

    /** "60 rows, numbered from 0". */
    private static void sixtyRows() {
        for (int height = 1; height <= 5; height++) {
            CuttingRoom room = new CuttingRoom();
            int bar = Rooms.shape(room, 'n', false, Rooms.block(height, 1));
            CHECK.due("the first row, height " + height, '-', reasonAt(room, bar, 0, 0));
            CHECK.due("above the first row, height " + height, 'o', reasonAt(room, bar, -1, 0));
            CHECK.due("far above, height " + height, 'o', reasonAt(room, bar, -height, 0));
            CHECK.due("the last rows, height " + height, '-', reasonAt(room, bar, 60 - height, 0));
            CHECK.due("below the last row, height " + height, 'o', reasonAt(room, bar, 61 - height, 0));
            for (int row : Rooms.outside(0, 59)) {
                CHECK.due("row " + row + ", height " + height, 'o', reasonAt(room, bar, row, 0));
            }
            room.lay(bar, 0, 60 - height, 0, false);
            CHECK.due("the length, height " + height, 60, room.length());
        }
    }

    /** "On open cloth, pieces are laid on all columns; on folded cloth, on .. half of the width, rounded down". */
    private static void columnsOfEachWidth() {
        for (int width = 2; width <= 12; width++) {
            CuttingRoom room = new CuttingRoom();
            room.setCloth(width, false, 0);
            columnsFor(room, width, "open, width " + width);
            room.fold(true);
            columnsFor(room, width / 2, "folded, width " + width);
            CHECK.due("folded", true, room.fold(false));
            columnsFor(room, width, "opened, width " + width);
        }
    }

    private static void columnsFor(CuttingRoom room, int columns, String what) {
        int shape = Rooms.shape(room, 'n', false, "42");
        CHECK.due(what + ", the first column", '-', reasonAt(room, shape, 0, 0));
        CHECK.due(what + ", left of it", 'o', reasonAt(room, shape, 0, -1));
        CHECK.due(what + ", the last column", '-', reasonAt(room, shape, 0, columns - 1));
        CHECK.due(what + ", right of it", 'o', reasonAt(room, shape, 0, columns));
        for (int column : Rooms.outside(0, 11)) {
            CHECK.due(what + ", column " + column, 'o', reasonAt(room, shape, 0, column));
        }
        int wide = Rooms.shape(room, 'n', false, "00 03");
        CHECK.due(what + ", a wide shape in the last column", columns < 4 ? 'o' : '-',
                reasonAt(room, wide, 0, columns - 4));
        CHECK.due(what + ", a wide shape", 'o', reasonAt(room, wide, 0, columns - 3));
    }

    /** "If the stripe number is 2 or more, the marks .. must be in rows .. with the same remainder". */
    private static void remaindersOfEachStripeNumber() {
        for (int stripes = 0; stripes <= 6; stripes++) {
            CuttingRoom room = new CuttingRoom();
            room.setCloth(12, false, stripes);
            int cell = Rooms.shape(room, 'n', false, "00");
            room.setMark(cell, 0, 0, 0);
            room.lay(cell, 0, 20, 0, false);
            for (int row = 0; row < 60; row++) {
                boolean isSame = stripes < 2 || (row - 20) % stripes == 0;
                CHECK.due("stripe number " + stripes + ", row " + row, isSame ? '-' : 's',
                        reasonAt(room, cell, row, 1));
            }
        }
    }

    /** Promise 3: "if the marker is not empty", whether the cloth would change or not. */
    private static void clothIsFoldedWithoutPieces() {
        CuttingRoom room = new CuttingRoom();
        int cell = Rooms.shape(room, 'n', false, "00");
        CHECK.due("open before", false, room.fold(false));
        room.nest(cell, false);
        CHECK.dueThrow("one piece, to fold", Rooms.STATE, () -> room.fold(true));
        CHECK.dueThrow("one piece, to leave it open", Rooms.STATE, () -> room.fold(false));
        CHECK.due("it stays open", '-', reasonAt(room, cell, 0, 11));
        room.takeOff(0);
        CHECK.due("it stayed open", false, room.fold(true));
        Rooms.nest(room, cell, false, Rooms.MARKER);
        CHECK.dueThrow("40 pieces, to open", Rooms.STATE, () -> room.fold(false));
        CHECK.dueThrow("40 pieces, to leave it folded", Rooms.STATE, () -> room.fold(true));
        CHECK.due("it stays folded", 'o', reasonAt(room, cell, 20, 6));
        room.clear();
        room.addFlaw(0, 0);
        CHECK.due("flaws do not hinder", true, room.fold(false));
        CHECK.due("flaws do not hinder", false, room.fold(true));
    }

    /** "Tells a flaw .. the column, within the width of the cloth"; "if there is no such cell". */
    private static void cellsThatCanHaveFlaws() {
        for (int width = 2; width <= 12; width++) {
            for (int folds = 0; folds < 2; folds++) {
                CuttingRoom room = new CuttingRoom();
                room.setCloth(width, false, 0);
                room.fold(folds == 1);
                String what = (folds == 1 ? "folded" : "open") + ", width " + width;
                CHECK.due(what + ", the first cell", 1, room.addFlaw(0, 0));
                CHECK.due(what + ", the last column", 2, room.addFlaw(0, width - 1));
                CHECK.due(what + ", the last row", 3, room.addFlaw(59, 0));
                CHECK.due(what + ", the last cell", 4, room.addFlaw(59, width - 1));
                CHECK.dueThrowEach(what + ", column", Rooms.outside(0, width - 1), Rooms.ARGUMENT,
                        column -> room.addFlaw(1, column));
                CHECK.dueThrowEach(what + ", row", Rooms.outside(0, 59), Rooms.ARGUMENT, row -> room.addFlaw(row, 1));
                CHECK.due(what + ", none was added", 4, room.clearFlaws());
            }
        }
    }

    /** "on folded cloth, a flaw in the column c is one in the column width minus 1 minus c, too". */
    private static void flawsOnTheFold() {
        for (int width = 2; width <= 12; width++) {
            for (int column = 0; column < width; column++) {
                CuttingRoom room = new CuttingRoom();
                int cell = Rooms.shape(room, 'n', false, "00");
                room.setCloth(width, false, 0);
                room.fold(true);
                room.addFlaw(7, column);
                String what = "width " + width + ", flaw in " + column;
                for (int asked = 0; asked < width / 2; asked++) {
                    boolean isFlaw = asked == column || asked == width - 1 - column;
                    CHECK.due(what + ", folded, column " + asked, isFlaw ? 'f' : '-', reasonAt(room, cell, 7, asked));
                }
                room.fold(false);
                for (int asked = 0; asked < width; asked++) {
                    CHECK.due(what + ", opened, column " + asked, asked == column ? 'f' : '-',
                            reasonAt(room, cell, 7, asked));
                }
                room.fold(true);
                int over = Math.min(column, width - 1 - column);
                CHECK.due(what + ", folded again", over < width / 2 ? 'f' : 'o', reasonAt(room, cell, 7, over));
                CHECK.due(what + ", the row above", over < width / 2 ? '-' : 'o', reasonAt(room, cell, 6, over));
            }
        }
    }

    /** "each cell that is told counts as a flaw of its own"; "if it has been told already, nothing changes". */
    private static void eachToldCellCounts() {
        CuttingRoom room = new CuttingRoom();
        room.setCloth(7, false, 0);
        room.fold(true);
        CHECK.due("a flaw", 1, room.addFlaw(5, 1));
        CHECK.due("told again", 1, room.addFlaw(5, 1));
        CHECK.due("the cell over it", 2, room.addFlaw(5, 5));
        CHECK.due("told again", 2, room.addFlaw(5, 5));
        CHECK.due("in the fold", 3, room.addFlaw(5, 3));
        CHECK.due("told again", 3, room.addFlaw(5, 3));
        room.fold(false);
        CHECK.due("told again on open cloth", 3, room.addFlaw(5, 5));
        CHECK.due("three flaws", 3, room.clearFlaws());
        CHECK.due("told anew", 1, room.addFlaw(5, 5));
    }

    /** "At most 12 cells of the cloth have flaws"; "if there are 12 flaws, and this is not one of them". */
    private static void twelveFlaws() {
        CuttingRoom room = new CuttingRoom();
        int cell = Rooms.shape(room, 'n', false, "00");
        for (int round = 0; round < 2; round++) {
            for (int i = 0; i < 12; i++) {
                CHECK.due("flaw " + i, i + 1, room.addFlaw(5 * i, i));
            }
            CHECK.dueThrow("a thirteenth", Rooms.STATE, () -> room.addFlaw(0, 1));
            CHECK.dueThrow("a thirteenth in the last cell", Rooms.STATE, () -> room.addFlaw(59, 11));
            CHECK.due("it is not there", '-', reasonAt(room, cell, 0, 1));
            for (int i = 0; i < 12; i++) {
                CHECK.due("one of the 12, " + i, 12, room.addFlaw(5 * i, i));
            }
            CHECK.due("all are forgotten", 12, room.clearFlaws());
        }
    }

    private static void twelveFlawsOnTheFold() {
        CuttingRoom room = new CuttingRoom();
        int cell = Rooms.shape(room, 'n', false, "00");
        room.fold(true);
        for (int i = 0; i < 12; i++) {
            CHECK.due("flaw " + i, i + 1, room.addFlaw(i, 0));
        }
        CHECK.dueThrow("the cell over a flaw is not one of them", Rooms.STATE, () -> room.addFlaw(3, 11));
        CHECK.due("one of the 12", 12, room.addFlaw(3, 0));
        room.fold(false);
        CHECK.due("the cell over the flaw was not told", '-', reasonAt(room, cell, 3, 11));
    }

    /** Promise 4: "if a piece of the marker would be on it". */
    private static void noFlawUnderPieces() {
        CuttingRoom room = new CuttingRoom();
        int gap = Rooms.shape(room, 'n', false, "00 02");
        room.setCloth(9, false, 0);
        room.lay(gap, 0, 5, 1, false);
        CHECK.dueThrow("the first cell", Rooms.UNSUPPORTED, () -> room.addFlaw(5, 1));
        CHECK.dueThrow("the last cell", Rooms.UNSUPPORTED, () -> room.addFlaw(5, 3));
        int[][] free = {{5, 2}, {4, 1}, {6, 1}, {5, 0}, {5, 4}, {5, 5}, {5, 7}};
        for (int i = 0; i < free.length; i++) {
            CHECK.due("beside the piece, " + i, i + 1, room.addFlaw(free[i][0], free[i][1]));
        }
        room.takeOff(0);
        CHECK.due("where the piece was", 8, room.addFlaw(5, 1));
        CHECK.due("and there, too", 9, room.addFlaw(5, 3));
    }

    private static void noFlawUnderPiecesOnTheFold() {
        for (int width = 8; width <= 9; width++) {
            CuttingRoom room = new CuttingRoom();
            int gap = Rooms.shape(room, 'n', false, "00 02");
            room.setCloth(width, false, 0);
            room.fold(true);
            room.lay(gap, 0, 5, 1, false);
            int told = 0;
            for (int i = 0; i < width; i++) {
                int column = i;
                String what = "width " + width + ", column " + i;
                int over = Math.min(column, width - 1 - column);
                if (over == 1 || over == 3) {
                    CHECK.dueThrow(what, Rooms.UNSUPPORTED, () -> room.addFlaw(5, column));
                } else {
                    told++;
                    CHECK.due(what, told, room.addFlaw(5, column));
                }
            }
            room.clear();
            CHECK.due("where the piece was", told + 1, room.addFlaw(5, width - 2));
        }
    }

    /** Promise 5: "the number of flaws that there were". */
    private static void flawsAreForgotten() {
        CuttingRoom room = new CuttingRoom();
        int cell = Rooms.shape(room, 'n', false, "00");
        CHECK.due("none", 0, room.clearFlaws());
        room.addFlaw(0, 11);
        CHECK.due("one", 1, room.clearFlaws());
        CHECK.due("none is left", 0, room.clearFlaws());
        CHECK.due("the cell is free", '-', reasonAt(room, cell, 0, 11));
        Rooms.nest(room, cell, false, Rooms.MARKER);
        for (int i = 0; i < 12; i++) {
            room.addFlaw(10 + i, i);
        }
        CHECK.due("12, and 40 pieces", 12, room.clearFlaws());
        CHECK.due("the pieces stay", 40, room.inMarker());
        CHECK.due("12 again can be told", 1, room.addFlaw(10, 0));
        room.clear();
        room.fold(true);
        room.addFlaw(9, 11);
        CHECK.due("on folded cloth", 2, room.clearFlaws());
        CHECK.due("the cell over it is free, too", '-', reasonAt(room, cell, 9, 0));
    }
}
