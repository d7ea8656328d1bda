/** "If several exceptions apply, the one that is listed first is thrown": each two that can apply at once. */
public final class ExceptionOrderTest {
    private static final Check CHECK = new Check("ExceptionOrderTest");

    private ExceptionOrderTest() {
    }

    public static void main(String[] args) {
        setClothAndAddFlaw();
        addShapeAndAddCell();
        setMark();
        layAndReason();
        layWithAFullMarker();
        nest();
        cellsAndGroups();
        addPart();
        nestedLengths();
        spread();
        pieces();
        makeAndPliesFor();
        CHECK.end();
    }

    private static void setClothAndAddFlaw() {
        CuttingRoom room = new CuttingRoom();
        int cell = Rooms.shape(room, 'n', false, "00");
        room.setCloth(10, false, 0);
        room.lay(cell, 0, 20, 9, false);
        CHECK.dueThrow("a width out of range, and a piece", Rooms.ARGUMENT, () -> room.setCloth(13, false, 0));
        CHECK.dueThrow("stripes out of range, and a piece", Rooms.ARGUMENT, () -> room.setCloth(10, false, 7));
        for (int row = 0; row < 12; row++) {
            room.addFlaw(row, 0);
        }
        CHECK.dueThrow("a width out of range, a piece and flaws", Rooms.ARGUMENT, () -> room.setCloth(1, false, 0));
        CHECK.dueThrow("no such row, and 12 flaws", Rooms.ARGUMENT, () -> room.addFlaw(60, 0));
        CHECK.dueThrow("no such column, and 12 flaws", Rooms.ARGUMENT, () -> room.addFlaw(0, 10));
        CHECK.dueThrow("a column in the row of a piece, and 12 flaws", Rooms.ARGUMENT, () -> room.addFlaw(20, 10));
        CHECK.dueThrow("under a piece, and 12 flaws", Rooms.UNSUPPORTED, () -> room.addFlaw(20, 9));
        room.clear();
        CHECK.dueThrow("a width out of range, and flaws", Rooms.ARGUMENT, () -> room.setCloth(1, false, 0));
        CHECK.dueThrow("stripes out of range, and flaws", Rooms.ARGUMENT, () -> room.setCloth(10, false, -1));
        room.fold(true);
        room.lay(cell, 0, 20, 1, false);
        CHECK.dueThrow("over a piece, and 12 flaws", Rooms.UNSUPPORTED, () -> room.addFlaw(20, 8));
        CHECK.dueThrow("12 flaws alone", Rooms.STATE, () -> room.addFlaw(20, 9));
    }

    private static void addShapeAndAddCell() {
        CuttingRoom room = new CuttingRoom();
        CHECK.dueThrow("no shape, and a row out of range", Rooms.INDEX, () -> room.addCell(0, 5, 0));
        int cell = Rooms.shape(room, 'n', false, "00");
        CHECK.dueThrow("no shape, and a column out of range", Rooms.INDEX, () -> room.addCell(1, 0, -1));
        room.nest(cell, false);
        CHECK.dueThrow("a row out of range, and a piece", Rooms.ARGUMENT, () -> room.addCell(cell, -1, 0));
        CHECK.dueThrow("a column out of range, and a piece", Rooms.ARGUMENT, () -> room.addCell(cell, 0, 5));
        CHECK.dueThrow("a cell twice, and a piece", Rooms.UNSUPPORTED, () -> room.addCell(cell, 0, 0));
        CHECK.dueThrow("a piece alone", Rooms.STATE, () -> room.addCell(cell, 0, 1));
        room.addCloth(1);
        room.spread(1);
        CHECK.dueThrow("a cell twice, a piece, and cut", Rooms.UNSUPPORTED, () -> room.addCell(cell, 0, 0));
        room.clear();
        CHECK.dueThrow("a row out of range, and cut", Rooms.ARGUMENT, () -> room.addCell(cell, 5, 0));
        CHECK.dueThrow("a cell twice, and cut", Rooms.UNSUPPORTED, () -> room.addCell(cell, 0, 0));
        CHECK.dueThrow("cut alone", Rooms.STATE, () -> room.addCell(cell, 0, 1));
        for (int i = 1; i < 8; i++) {
            room.addShape('n', false);
        }
        CHECK.dueThrow("no rule, and 8 shapes", Rooms.ARGUMENT, () -> room.addShape('N', false));
        CHECK.dueThrow("8 shapes alone", Rooms.STATE, () -> room.addShape('n', false));
    }

    private static void setMark() {
        CuttingRoom room = new CuttingRoom();
        CHECK.dueThrow("no shape, and a group out of range", Rooms.INDEX, () -> room.setMark(0, 4, 0, 0));
        int cell = Rooms.shape(room, 'n', false, "00");
        CHECK.dueThrow("no shape, and a row out of range", Rooms.INDEX, () -> room.setMark(1, 0, 5, 0));
        CHECK.dueThrow("no shape, and a column out of range", Rooms.INDEX, () -> room.setMark(-1, 0, 0, -1));
        room.nest(cell, false);
        CHECK.dueThrow("a group out of range, and a piece", Rooms.ARGUMENT, () -> room.setMark(cell, -2, 0, 0));
        CHECK.dueThrow("a row out of range, and a piece", Rooms.ARGUMENT, () -> room.setMark(cell, -1, -1, 0));
        CHECK.dueThrow("a column out of range, and a piece", Rooms.ARGUMENT, () -> room.setMark(cell, 3, 0, 5));
        CHECK.dueThrow("a piece alone", Rooms.STATE, () -> room.setMark(cell, 3, 0, 4));
    }

    private static void layAndReason() {
        CuttingRoom room = new CuttingRoom();
        int empty = Rooms.shape(room, 'q', false, "");
        int cell = Rooms.shape(room, 'q', false, "00");
        room.lay(cell, 0, 0, 0, false);
        for (int turns : new int[] {-1, 4}) {
            String what = ", turns " + turns;
            CHECK.dueThrow("lay, no shape" + what, Rooms.INDEX, () -> room.lay(2, turns, 0, 0, false));
            CHECK.dueThrow("reason, no shape" + what, Rooms.INDEX, () -> room.reason(2, turns, 0, 0, false));
            CHECK.dueThrow("lay, no cells" + what, Rooms.ARGUMENT, () -> room.lay(empty, turns, 0, 0, false));
            CHECK.dueThrow("reason, no cells" + what, Rooms.ARGUMENT, () -> room.reason(empty, turns, 0, 0, false));
            CHECK.dueThrow("lay, mirrored" + what, Rooms.ARGUMENT, () -> room.lay(cell, turns, 5, 0, true));
            CHECK.dueThrow("reason, mirrored" + what, Rooms.ARGUMENT, () -> room.reason(cell, turns, 5, 0, true));
            CHECK.dueThrow("lay, outside" + what, Rooms.ARGUMENT, () -> room.lay(cell, turns, -1, 0, false));
            CHECK.dueThrow("reason, outside" + what, Rooms.ARGUMENT, () -> room.reason(cell, turns, -1, 0, false));
            CHECK.dueThrow("lay, on a piece" + what, Rooms.ARGUMENT, () -> room.lay(cell, turns, 0, 0, false));
            CHECK.dueThrow("reason, on a piece" + what, Rooms.ARGUMENT, () -> room.reason(cell, turns, 0, 0, false));
        }
        CHECK.due("one piece is laid", 1, room.inMarker());
    }

    private static void layWithAFullMarker() {
        CuttingRoom room = new CuttingRoom();
        int empty = Rooms.shape(room, 'q', false, "");
        int cell = Rooms.shape(room, 'n', false, "00");
        room.setCloth(12, false, 2);
        room.setMark(cell, 0, 0, 0);
        room.lay(cell, 0, 2, 0, false);
        Rooms.nest(room, cell, false, Rooms.MARKER - 1);
        room.addFlaw(59, 0);
        CHECK.dueThrow("no shape, and 40 pieces", Rooms.INDEX, () -> room.lay(2, 0, 30, 0, false));
        CHECK.dueThrow("no shape, turns, and 40 pieces", Rooms.INDEX, () -> room.lay(-1, 4, 30, 0, false));
        CHECK.dueThrow("turns 4, and 40 pieces", Rooms.ARGUMENT, () -> room.lay(cell, 4, 30, 0, false));
        CHECK.dueThrow("turns -1, a piece, and 40 pieces", Rooms.ARGUMENT, () -> room.lay(cell, -1, 2, 0, false));
        CHECK.dueThrow("'e', and 40 pieces", Rooms.UNSUPPORTED, () -> room.lay(empty, 0, 30, 0, false));
        CHECK.dueThrow("'t', and 40 pieces", Rooms.UNSUPPORTED, () -> room.lay(cell, 1, 30, 0, false));
        CHECK.dueThrow("'m', and 40 pieces", Rooms.UNSUPPORTED, () -> room.lay(cell, 0, 30, 0, true));
        CHECK.dueThrow("'o', and 40 pieces", Rooms.UNSUPPORTED, () -> room.lay(cell, 0, 30, 12, false));
        CHECK.dueThrow("'f', and 40 pieces", Rooms.UNSUPPORTED, () -> room.lay(cell, 0, 59, 0, false));
        CHECK.dueThrow("'p', and 40 pieces", Rooms.UNSUPPORTED, () -> room.lay(cell, 0, 2, 0, false));
        CHECK.dueThrow("'s', and 40 pieces", Rooms.UNSUPPORTED, () -> room.lay(cell, 0, 31, 0, false));
        CHECK.dueThrow("40 pieces alone", Rooms.STATE, () -> room.lay(cell, 0, 30, 0, false));
        CHECK.due("40 pieces still", 40, room.inMarker());
    }

    private static void nest() {
        CuttingRoom room = new CuttingRoom();
        int empty = Rooms.shape(room, 'q', false, "");
        int square = Rooms.shape(room, 'n', false, Rooms.block(5, 3));
        int large = Rooms.shape(room, 'n', false, Rooms.block(5, 5));
        for (int i = 0; i < 40; i++) {
            room.lay(square, 0, 5 * (i / 4), 3 * (i % 4), false);
        }
        CHECK.dueThrow("no shape, and 40 pieces", Rooms.INDEX, () -> room.nest(3, false));
        CHECK.dueThrow("no shape, mirrored, and 40 pieces", Rooms.INDEX, () -> room.nest(-1, true));
        CHECK.dueThrow("no cells, and 40 pieces", Rooms.ELEMENT, () -> room.nest(empty, false));
        CHECK.dueThrow("mirrored, and 40 pieces", Rooms.ELEMENT, () -> room.nest(square, true));
        CHECK.dueThrow("40 pieces alone", Rooms.STATE, () -> room.nest(large, false));
        room.addFlaw(54, 2);
        room.addFlaw(54, 7);
        room.addFlaw(55, 4);
        room.addFlaw(55, 9);
        CHECK.dueThrow("no place, and 40 pieces", Rooms.ELEMENT, () -> room.nest(large, false));
        CHECK.dueThrow("40 pieces alone", Rooms.STATE, () -> room.nest(square, false));
    }

    private static void cellsAndGroups() {
        CuttingRoom room = new CuttingRoom();
        CHECK.dueThrow("pieceAt outside, without pieces", Rooms.ARGUMENT, () -> room.pieceAt(60, 0));
        CHECK.dueThrow("pieceAt outside, without pieces", Rooms.ARGUMENT, () -> room.pieceAt(0, 12));
        CHECK.dueThrow("pieceByPieces outside, without pieces", Rooms.ARGUMENT, () -> room.pieceByPieces(-1, 0));
        CHECK.dueThrow("pieceByPieces outside, without pieces", Rooms.ARGUMENT, () -> room.pieceByPieces(0, -1));
        CHECK.dueThrow("no group, and no stripes", Rooms.ARGUMENT, () -> room.phase(4));
        CHECK.dueThrow("no stripes alone", Rooms.STATE, () -> room.phase(3));
        room.setCloth(12, false, 6);
        CHECK.dueThrow("no group, and no piece", Rooms.ARGUMENT, () -> room.phase(-1));
        CHECK.dueThrow("no piece alone", Rooms.STATE, () -> room.phase(0));
    }

    private static void addPart() {
        CuttingRoom room = new CuttingRoom();
        int cell = Rooms.shape(room, 'n', false, "00");
        CHECK.dueThrow("no style, and no count", Rooms.INDEX, () -> room.addPart(0, cell, 0));
        room.addStyle();
        CHECK.dueThrow("no shape, and no count", Rooms.INDEX, () -> room.addPart(0, 1, 5));
        CHECK.dueThrow("neither style nor shape", Rooms.INDEX, () -> room.addPart(1, 1, 1));
        room.addPart(0, cell, 1);
        CHECK.dueThrow("no count, and a part with the shape", Rooms.ARGUMENT, () -> room.addPart(0, cell, 0));
        CHECK.dueThrow("no count, and a part with the shape", Rooms.ARGUMENT, () -> room.addPart(0, cell, 5));
        CHECK.dueThrow("a part with the shape alone", Rooms.UNSUPPORTED, () -> room.addPart(0, cell, 4));
        int other = room.addShape('n', false);
        room.addCloth(1);
        Rooms.cut(room, cell, false, 1);
        room.make(0, 1);
        CHECK.dueThrow("no shape, and a garment", Rooms.INDEX, () -> room.addPart(0, 2, 1));
        CHECK.dueThrow("no shape, no count, and a garment", Rooms.INDEX, () -> room.addPart(0, -1, 5));
        CHECK.dueThrow("no count, and a garment", Rooms.ARGUMENT, () -> room.addPart(0, other, 5));
        CHECK.dueThrow("a garment alone", Rooms.UNSUPPORTED, () -> room.addPart(0, other, 4));
    }

    private static void nestedLengths() {
        CuttingRoom room = new CuttingRoom();
        int empty = Rooms.shape(room, 'n', false, "");
        int cell = Rooms.shape(room, 'n', false, "00");
        room.addStyle();
        room.addPart(0, empty, 4);
        CHECK.dueThrow("no cells", Rooms.STATE, () -> room.nestedLength(0));
        CHECK.dueThrow("no cells", Rooms.STATE, () -> room.nestedByTrying(0));
        room.addPart(0, cell, 1);
        CHECK.dueThrow("five pieces, and no cells", Rooms.UNSUPPORTED, () -> room.nestedLength(0));
        CHECK.dueThrow("five pieces, and no cells", Rooms.UNSUPPORTED, () -> room.nestedByTrying(0));
        room.fold(true);
        CHECK.dueThrow("folded, three pieces, and no cells", Rooms.STATE, () -> room.nestedLength(0));
        CHECK.dueThrow("folded, three pieces, and no cells", Rooms.STATE, () -> room.nestedByTrying(0));
    }

    private static void spread() {
        CuttingRoom room = new CuttingRoom();
        int cell = Rooms.shape(room, 'n', false, "00");
        for (int plies : new int[] {0, 51}) {
            CHECK.dueThrow("an empty marker, plies " + plies, Rooms.ARGUMENT, () -> room.spread(plies));
        }
        CHECK.dueThrow("an empty marker and roll", Rooms.UNSUPPORTED, () -> room.spread(1));
        room.nest(cell, false);
        for (int plies : new int[] {0, 51, -1, Rooms.HIGH, Rooms.LOW}) {
            CHECK.dueThrow("no cloth, plies " + plies, Rooms.ARGUMENT, () -> room.spread(plies));
        }
        CHECK.dueThrow("no cloth alone", Rooms.STATE, () -> room.spread(1));
        room.addCloth(9999);
        Rooms.cut(room, cell, false, Rooms.STOCK);
        CHECK.dueThrow("an empty marker, and a full stock", Rooms.UNSUPPORTED, () -> room.spread(1));
        room.nest(cell, false);
        for (int plies : new int[] {0, 51}) {
            CHECK.dueThrow("a full stock, plies " + plies, Rooms.ARGUMENT, () -> room.spread(plies));
        }
        CHECK.dueThrow("a full stock alone", Rooms.STATE, () -> room.spread(1));
    }

    private static void pieces() {
        CuttingRoom room = new CuttingRoom();
        CHECK.dueThrow("no shape, mirrored", Rooms.INDEX, () -> room.pieces(0, true));
        room.addShape('n', false);
        CHECK.dueThrow("no shape, mirrored", Rooms.INDEX, () -> room.pieces(1, true));
        CHECK.dueThrow("single, mirrored", Rooms.UNSUPPORTED, () -> room.pieces(0, true));
    }

    private static void makeAndPliesFor() {
        CuttingRoom room = new CuttingRoom();
        Rooms.shape(room, 'n', false, "00");
        for (int number : new int[] {0, 100}) {
            CHECK.dueThrow("make, no style, garments " + number, Rooms.INDEX, () -> room.make(0, number));
            CHECK.dueThrow("pliesFor, no style, garments " + number, Rooms.INDEX, () -> room.pliesFor(0, number));
        }
        room.addStyle();
        for (int number : new int[] {0, 100}) {
            CHECK.dueThrow("make, no parts, garments " + number, Rooms.ARGUMENT, () -> room.make(0, number));
            CHECK.dueThrow("pliesFor, no parts, garments " + number, Rooms.ARGUMENT, () -> room.pliesFor(0, number));
        }
        CHECK.dueThrow("make, no parts, and no pieces", Rooms.UNSUPPORTED, () -> room.make(0, 99));
        CHECK.dueThrow("pliesFor, no parts, and no pieces", Rooms.UNSUPPORTED, () -> room.pliesFor(0, 99));
        room.addPart(0, 0, 1);
        for (int number : new int[] {0, 100}) {
            CHECK.dueThrow("make, no pieces, garments " + number, Rooms.ARGUMENT, () -> room.make(0, number));
            CHECK.dueThrow("pliesFor, no pieces, garments " + number, Rooms.ARGUMENT, () -> room.pliesFor(0, number));
        }
        CHECK.dueThrow("make, no pieces", Rooms.STATE, () -> room.make(0, 99));
        CHECK.dueThrow("pliesFor, no pieces", Rooms.STATE, () -> room.pliesFor(0, 99));
    }
}
