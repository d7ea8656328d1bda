/** The boundary cases of 'Cutting' and of the promises 29 to 32 and 38. */
public final class CuttingBoundaryTest {
    private static final Check CHECK = new Check("CuttingBoundaryTest");

    private CuttingBoundaryTest() {
    }

    public static void main(String[] args) {
        clothFrom1To9999Rows();
        theLongestRoll();
        pliesFrom1To50();
        noPliesOfAnEmptyMarker();
        theRollIsLongEnough();
        theRollIsLongEnoughOnTheFold();
        theLongestSpread();
        whatAPlyGives();
        whatAFoldedPlyGives();
        theFullestStock();
        theFullestStockOfPairs();
        theFullestStockOnTheFold();
        oneFullShapeIsEnough();
        garmentsMakeRoomInTheStock();
        piecesOfEachSort();
        allPiecesThatWereCut();
        CHECK.end();
    }

    /** Promise 29: "the length in rows, 1 to 9999"; promise 30: "0 at first". */
    private static void clothFrom1To9999Rows() {
        CuttingRoom room = new CuttingRoom();
        CHECK.due("0 at first", 0, room.roll());
        CHECK.dueThrowEach("rows", Rooms.outside(1, 9999), Rooms.ARGUMENT, rows -> room.addCloth(rows));
        CHECK.due("0 still", 0, room.roll());
        CHECK.due("1 row", 1, room.addCloth(1));
        CHECK.due("9999 rows", 10000, room.addCloth(9999));
        CHECK.due("9998 rows", 19998, room.addCloth(9998));
        CHECK.due("2 rows", 20000, room.addCloth(2));
        CHECK.dueThrowEach("rows", Rooms.outside(1, 9999), Rooms.ARGUMENT, rows -> room.addCloth(rows));
        CHECK.due("the roll", 20000, room.roll());
    }

    /** Promise 29: "or the roll would be longer than 999999". */
    private static void theLongestRoll() {
        CuttingRoom room = new CuttingRoom();
        Rooms.addCloth(room, Rooms.ROLL - 9998);
        CHECK.due("nearly full", Rooms.ROLL - 9998, room.roll());
        CHECK.dueThrow("a row too much", Rooms.ARGUMENT, () -> room.addCloth(9999));
        CHECK.due("as long as it was", Rooms.ROLL - 9998, room.roll());
        CHECK.due("full", Rooms.ROLL, room.addCloth(9998));
        CHECK.dueThrow("a row too much", Rooms.ARGUMENT, () -> room.addCloth(1));
        CHECK.dueThrow("many rows too much", Rooms.ARGUMENT, () -> room.addCloth(9999));
        CHECK.dueThrow("far too much", Rooms.ARGUMENT, () -> room.addCloth(Rooms.HIGH));
        CHECK.due("full", Rooms.ROLL, room.roll());
        int cell = Rooms.shape(room, 'n', false, "00");
        room.nest(cell, false);
        CHECK.due("a row is cut off", Rooms.ROLL - 1, room.spread(1));
        CHECK.dueThrow("a row too much", Rooms.ARGUMENT, () -> room.addCloth(2));
        CHECK.due("full again", Rooms.ROLL, room.addCloth(1));
    }

    /** Promise 31: "the number of plies, 1 to 50". */
    private static void pliesFrom1To50() {
        CuttingRoom room = new CuttingRoom();
        int cell = Rooms.shape(room, 'n', false, "00");
        room.nest(cell, false);
        room.addCloth(200);
        CHECK.dueThrowEach("plies", Rooms.outside(1, 50), Rooms.ARGUMENT, plies -> room.spread(plies));
        CHECK.due("nothing was cut", 0L, room.cut());
        CHECK.due("1 ply", 199, room.spread(1));
        CHECK.due("1 piece", 1, room.pieces(cell, false));
        CHECK.due("50 plies", 149, room.spread(50));
        CHECK.due("51 pieces", 51, room.pieces(cell, false));
        CHECK.due("49 plies", 100, room.spread(49));
        CHECK.due("2 plies", 98, room.spread(2));
        CHECK.due("102 pieces", 102L, room.cut());
    }

    /** Promise 31: "if the marker is empty". */
    private static void noPliesOfAnEmptyMarker() {
        CuttingRoom room = new CuttingRoom();
        int cell = Rooms.shape(room, 'n', false, "00");
        CHECK.dueThrow("no piece, no cloth", Rooms.UNSUPPORTED, () -> room.spread(1));
        room.addCloth(9);
        CHECK.dueThrow("no piece", Rooms.UNSUPPORTED, () -> room.spread(1));
        CHECK.dueThrow("no piece", Rooms.UNSUPPORTED, () -> room.spread(50));
        room.nest(cell, false);
        room.takeOff(0);
        CHECK.dueThrow("none is left", Rooms.UNSUPPORTED, () -> room.spread(1));
        room.nest(cell, false);
        room.clear();
        CHECK.dueThrow("cleared", Rooms.UNSUPPORTED, () -> room.spread(1));
        room.fold(true);
        CHECK.dueThrow("folded", Rooms.UNSUPPORTED, () -> room.spread(1));
        CHECK.due("no cloth was cut", 9, room.roll());
        room.nest(cell, false);
        CHECK.due("one piece is enough", 7, room.spread(1));
    }

    /** Promise 31: "if the roll is too short"; "each ply takes as much cloth .. as the marker is long". */
    private static void theRollIsLongEnough() {
        CuttingRoom room = new CuttingRoom();
        int bar = Rooms.shape(room, 'n', false, "00 10 20");
        room.lay(bar, 0, 4, 0, false);
        CHECK.dueThrow("no cloth", Rooms.STATE, () -> room.spread(1));
        room.addCloth(6);
        CHECK.dueThrow("6 rows for 7", Rooms.STATE, () -> room.spread(1));
        room.addCloth(1);
        CHECK.due("7 rows for 7", 0, room.spread(1));
        CHECK.dueThrow("no cloth is left", Rooms.STATE, () -> room.spread(1));
        room.addCloth(349);
        CHECK.dueThrow("349 rows for 350", Rooms.STATE, () -> room.spread(50));
        CHECK.due("nothing was cut", 349, room.roll());
        CHECK.due("one piece was cut before", 1, room.pieces(bar, false));
        room.addCloth(1);
        CHECK.due("350 rows for 350", 0, room.spread(50));
        CHECK.due("51 pieces", 51, room.pieces(bar, false));
    }

    /** "A ply of folded cloth takes twice as much cloth." */
    private static void theRollIsLongEnoughOnTheFold() {
        CuttingRoom room = new CuttingRoom();
        room.fold(true);
        int bar = Rooms.shape(room, 'n', false, "00 10 20");
        room.lay(bar, 0, 4, 0, false);
        room.addCloth(13);
        CHECK.dueThrow("13 rows for 14", Rooms.STATE, () -> room.spread(1));
        room.addCloth(1);
        CHECK.due("14 rows for 14", 0, room.spread(1));
        room.addCloth(699);
        CHECK.dueThrow("699 rows for 700", Rooms.STATE, () -> room.spread(50));
        CHECK.due("49 plies", 13, room.spread(49));
        room.addCloth(2);
        CHECK.due("one row more than 14", 1, room.spread(1));
        room.clear();
        room.fold(false);
        room.lay(bar, 0, 0, 11, false);
        room.addCloth(2);
        CHECK.due("opened, three rows for three", 0, room.spread(1));
    }

    /** The most rows that one call can take: 50 plies of 60 rows of folded cloth. */
    private static void theLongestSpread() {
        CuttingRoom room = new CuttingRoom();
        room.fold(true);
        int cell = Rooms.shape(room, 'n', true, "00");
        room.lay(cell, 0, 59, 5, false);
        room.addCloth(5999);
        CHECK.dueThrow("a row too few", Rooms.STATE, () -> room.spread(50));
        room.addCloth(1);
        CHECK.due("6000 rows", 0, room.spread(50));
        CHECK.due("50 plain pieces", 50, room.pieces(cell, false));
        CHECK.due("50 mirrored pieces", 50, room.pieces(cell, true));
    }

    /** "on open cloth, one of each piece of the marker, plain or mirrored as it is". */
    private static void whatAPlyGives() {
        CuttingRoom room = new CuttingRoom();
        int single = Rooms.shape(room, 'q', false, "00");
        int paired = Rooms.shape(room, 'q', true, "00");
        int other = Rooms.shape(room, 'q', true, "00");
        room.nest(single, false);
        Rooms.nest(room, paired, false, 2);
        Rooms.nest(room, paired, true, 3);
        room.addCloth(9);
        room.spread(2);
        CHECK.due("single", 2, room.pieces(single, false));
        CHECK.due("paired, plain", 4, room.pieces(paired, false));
        CHECK.due("paired, mirrored", 6, room.pieces(paired, true));
        CHECK.due("not in the marker, plain", 0, room.pieces(other, false));
        CHECK.due("not in the marker, mirrored", 0, room.pieces(other, true));
        CHECK.due("all", 12L, room.cut());
        CHECK.due("the marker stays", 6, room.inMarker());
        room.takeOff(0);
        room.spread(1);
        CHECK.due("single, taken off", 2, room.pieces(single, false));
        CHECK.due("paired, plain, cut again", 6, room.pieces(paired, false));
    }

    /** "on folded cloth, for each piece .. two pieces, which are one plain and one mirrored one if .. paired". */
    private static void whatAFoldedPlyGives() {
        CuttingRoom room = new CuttingRoom();
        room.fold(true);
        int single = Rooms.shape(room, 'q', false, "00");
        int paired = Rooms.shape(room, 'q', true, "00");
        Rooms.nest(room, single, false, 2);
        Rooms.nest(room, paired, false, 3);
        room.addCloth(9);
        room.spread(1);
        CHECK.due("single", 4, room.pieces(single, false));
        CHECK.due("paired, plain", 3, room.pieces(paired, false));
        CHECK.due("paired, mirrored", 3, room.pieces(paired, true));
        CHECK.due("all", 10L, room.cut());
        room.spread(3);
        CHECK.due("single, three plies more", 16, room.pieces(single, false));
        CHECK.due("mirrored, three plies more", 12, room.pieces(paired, true));
        CHECK.due("all", 40L, room.cut());
        CHECK.due("8 rows", 1, room.roll());
    }

    /** Promise 31: "or the stock would have more than 9999 plain or mirrored pieces of a shape then". */
    private static void theFullestStock() {
        CuttingRoom room = new CuttingRoom();
        int cell = Rooms.shape(room, 'n', false, "00");
        room.addCloth(9999);
        Rooms.cut(room, cell, false, Rooms.STOCK - 50);
        room.nest(cell, false);
        int before = room.roll();
        room.nest(cell, false);
        CHECK.dueThrow("one piece too many, 26 plies of 2", Rooms.STATE, () -> room.spread(26));
        CHECK.due("nothing was cut", Rooms.STOCK - 50, room.pieces(cell, false));
        CHECK.due("nothing was cut", before, room.roll());
        room.takeOff(1);
        CHECK.due("50 plies of 1", before - 50, room.spread(50));
        CHECK.due("full", Rooms.STOCK, room.pieces(cell, false));
        CHECK.dueThrow("one piece too many", Rooms.STATE, () -> room.spread(1));
        CHECK.dueThrow("50 pieces too many", Rooms.STATE, () -> room.spread(50));
        CHECK.due("full", Rooms.STOCK, room.pieces(cell, false));
        CHECK.due("all", 9999L, room.cut());
        CHECK.due("sound", true, room.isSound());
    }

    /** Plain and mirrored pieces are limited apart. */
    private static void theFullestStockOfPairs() {
        CuttingRoom room = new CuttingRoom();
        int pair = Rooms.shape(room, 'n', true, "00");
        room.addCloth(9999);
        Rooms.cut(room, pair, true, Rooms.STOCK);
        room.nest(pair, true);
        CHECK.dueThrow("one mirrored piece too many", Rooms.STATE, () -> room.spread(1));
        room.nest(pair, false);
        CHECK.dueThrow("one mirrored piece too many, and a plain one", Rooms.STATE, () -> room.spread(1));
        CHECK.due("no plain one", 0, room.pieces(pair, false));
        room.takeOff(0);
        int before = room.roll();
        CHECK.due("plain ones alone", before - 50, room.spread(50));
        Rooms.cut(room, pair, false, Rooms.STOCK - 50);
        CHECK.due("full of plain ones", Rooms.STOCK, room.pieces(pair, false));
        CHECK.due("full of mirrored ones", Rooms.STOCK, room.pieces(pair, true));
        room.nest(pair, false);
        CHECK.dueThrow("one plain piece too many", Rooms.STATE, () -> room.spread(1));
        CHECK.due("all", 19998L, room.cut());
        CHECK.due("sound", true, room.isSound());
    }

    /** Folded cloth gives two single ones, or one of each sort, for each piece. */
    private static void theFullestStockOnTheFold() {
        CuttingRoom room = new CuttingRoom();
        int single = Rooms.shape(room, 'n', false, "00");
        int pair = Rooms.shape(room, 'n', true, "00");
        room.addCloth(9999);
        Rooms.cut(room, single, false, Rooms.STOCK - 2);
        Rooms.cut(room, pair, true, Rooms.STOCK - 1);
        room.fold(true);
        room.nest(single, false);
        CHECK.dueThrow("four single ones for two", Rooms.STATE, () -> room.spread(2));
        int before = room.roll();
        CHECK.due("two single ones for two", before - 2, room.spread(1));
        CHECK.dueThrow("two single ones for none", Rooms.STATE, () -> room.spread(1));
        room.clear();
        room.nest(pair, false);
        CHECK.dueThrow("two mirrored ones for one", Rooms.STATE, () -> room.spread(2));
        CHECK.due("one mirrored one for one", before - 4, room.spread(1));
        CHECK.dueThrow("a mirrored one for none", Rooms.STATE, () -> room.spread(1));
        CHECK.due("single ones", Rooms.STOCK, room.pieces(single, false));
        CHECK.due("plain ones", 1, room.pieces(pair, false));
        CHECK.due("mirrored ones", Rooms.STOCK, room.pieces(pair, true));
    }

    /** If one shape would be too many, none is cut. */
    private static void oneFullShapeIsEnough() {
        CuttingRoom room = new CuttingRoom();
        int first = Rooms.shape(room, 'n', false, "00");
        int full = Rooms.shape(room, 'n', false, "00");
        int last = Rooms.shape(room, 'n', false, "00");
        room.addCloth(9999);
        Rooms.cut(room, full, false, Rooms.STOCK);
        room.nest(first, false);
        room.nest(full, false);
        room.nest(last, false);
        CHECK.dueThrow("the one in the middle is full", Rooms.STATE, () -> room.spread(1));
        CHECK.due("none of the first", 0, room.pieces(first, false));
        CHECK.due("none of the last", 0, room.pieces(last, false));
        CHECK.due("a cell can be added once the piece is off", 2, addCellWithoutPieces(room, first));
        room.clear();
        room.nest(first, false);
        room.nest(last, false);
        int before = room.roll();
        CHECK.due("the others can be cut", before - 3, room.spread(3));
        CHECK.due("the full one stays full", Rooms.STOCK, room.pieces(full, false));
    }

    private static int addCellWithoutPieces(CuttingRoom room, int shape) {
        room.clear();
        return room.addCell(shape, 0, 1);
    }

    /** The limit is one of the stock, not of all pieces that were cut. */
    private static void garmentsMakeRoomInTheStock() {
        CuttingRoom room = new CuttingRoom();
        int cell = Rooms.shape(room, 'n', false, "00");
        room.addCloth(9999);
        Rooms.cut(room, cell, false, Rooms.STOCK);
        room.addStyle();
        room.addPart(0, cell, 1);
        room.make(0, 2);
        room.nest(cell, false);
        CHECK.dueThrow("three for two", Rooms.STATE, () -> room.spread(3));
        int before = room.roll();
        CHECK.due("two for two", before - 2, room.spread(2));
        CHECK.due("full again", Rooms.STOCK, room.pieces(cell, false));
        CHECK.due("all that were cut", 10001L, room.cut());
        CHECK.due("sound", true, room.isSound());
    }

    /** Promise 32: "if there is no such shape", "if the shape is single, and mirrored ones are asked for". */
    private static void piecesOfEachSort() {
        CuttingRoom room = new CuttingRoom();
        CHECK.dueThrow("no shape at all", Rooms.INDEX, () -> room.pieces(0, false));
        int single = Rooms.shape(room, 'n', false, "00");
        int paired = Rooms.shape(room, 'n', true, "00");
        CHECK.dueThrowEach("plain, shape", Rooms.outside(0, 1), Rooms.INDEX, shape -> room.pieces(shape, false));
        CHECK.dueThrowEach("mirrored, shape", Rooms.outside(0, 1), Rooms.INDEX, shape -> room.pieces(shape, true));
        CHECK.due("single, plain", 0, room.pieces(single, false));
        CHECK.dueThrow("single, mirrored", Rooms.UNSUPPORTED, () -> room.pieces(single, true));
        CHECK.due("paired, plain", 0, room.pieces(paired, false));
        CHECK.due("paired, mirrored", 0, room.pieces(paired, true));
        for (int i = 2; i < 8; i++) {
            room.addShape('n', true);
        }
        CHECK.due("the last shape", 0, room.pieces(7, true));
        CHECK.dueThrow("shape 8", Rooms.INDEX, () -> room.pieces(8, true));
        room.addCloth(1);
        room.nest(single, false);
        room.spread(1);
        CHECK.due("single, plain, cut", 1, room.pieces(single, false));
        CHECK.dueThrow("single, mirrored, cut", Rooms.UNSUPPORTED, () -> room.pieces(single, true));
    }

    /** Promise 38: of all shapes and sorts, also those in garments. */
    private static void allPiecesThatWereCut() {
        CuttingRoom room = new CuttingRoom();
        CHECK.due("none at first", 0L, room.cut());
        long due = 0;
        room.addCloth(9999);
        for (int shape = 0; shape < 8; shape++) {
            Rooms.shape(room, 'n', shape % 2 == 1, "00");
            room.nest(shape, shape % 2 == 1);
            room.spread(shape + 1);
            due += (shape + 1) * (shape + 1);
            CHECK.due("with shape " + shape, due, room.cut());
        }
        room.clear();
        CHECK.due("with an empty marker", due, room.cut());
        room.addStyle();
        room.addPart(0, 0, 4);
        room.make(0, 9);
        CHECK.due("no piece of shape 0 is left", 0, room.pieces(0, false));
        CHECK.due("with garments", due, room.cut());
    }
}
