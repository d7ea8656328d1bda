/** The boundary cases of the promises 33 to 37 and 39 to 41. */
public final class GarmentBoundaryTest {
    private static final Check CHECK = new Check("GarmentBoundaryTest");

    private GarmentBoundaryTest() {
    }

    public static void main(String[] args) {
        stylesThatAreThere();
        stylesWithoutParts();
        asManyAsTheStockGives();
        theScarcestPartCounts();
        theScarcestSortCounts();
        eachOfEightShapesCounts();
        theMostGarmentsInStock();
        garmentsFrom1To99();
        tooFewPieces();
        tooFewPiecesOfOneSort();
        garmentsThatWereMade();
        noPliesIfTheStockIsEnough();
        theLeastNumberOfPlies();
        theMostPlies();
        noNumberOfPliesIsEnough();
        pliesOfFoldedCloth();
        limitsDoNotCountForPlies();
        densities();
        meansOfCells();
        soundRooms();
        CHECK.end();
    }

    private static void dueCanMake(String what, int want, CuttingRoom room, int style) {
        CHECK.due(what + ", canMake", want, room.canMake(style));
        CHECK.due(what + ", canMakeByTaking", want, room.canMakeByTaking(style));
    }

    /** A room with cloth and two shapes of one cell, 0 single and 1 paired. */
    private static CuttingRoom roomWithCells() {
        CuttingRoom room = new CuttingRoom();
        Rooms.shape(room, 'n', false, "00");
        Rooms.shape(room, 'n', true, "00");
        room.addCloth(9999);
        return room;
    }

    /** "if there is no such style". */
    private static void stylesThatAreThere() {
        CuttingRoom room = roomWithCells();
        Rooms.cut(room, 0, false, 1);
        for (int styles = 0; styles <= 4; styles++) {
            for (int style : new int[] {-1, styles, 4, Rooms.LOW, Rooms.HIGH, 256, 1 << 16}) {
                CHECK.dueThrow("canMake " + style, Rooms.INDEX, () -> room.canMake(style));
                CHECK.dueThrow("canMakeByTaking " + style, Rooms.INDEX, () -> room.canMakeByTaking(style));
                CHECK.dueThrow("make " + style, Rooms.INDEX, () -> room.make(style, 1));
                CHECK.dueThrow("made " + style, Rooms.INDEX, () -> room.made(style));
                CHECK.dueThrow("pliesFor " + style, Rooms.INDEX, () -> room.pliesFor(style, 1));
            }
            if (styles < 4) {
                room.addPart(room.addStyle(), 0, 1);
                dueCanMake("style " + styles, 1, room, styles);
                CHECK.due("made " + styles, 0, room.made(styles));
                CHECK.due("pliesFor " + styles, 0, room.pliesFor(styles, 1));
            }
        }
        CHECK.due("the last style", 1, room.make(3, 1));
    }

    /** "if the style has no parts". */
    private static void stylesWithoutParts() {
        CuttingRoom room = roomWithCells();
        room.addStyle();
        room.addStyle();
        room.addPart(1, 0, 1);
        Rooms.cut(room, 0, false, 5);
        CHECK.dueThrow("canMake", Rooms.UNSUPPORTED, () -> room.canMake(0));
        CHECK.dueThrow("canMakeByTaking", Rooms.UNSUPPORTED, () -> room.canMakeByTaking(0));
        CHECK.dueThrow("make", Rooms.UNSUPPORTED, () -> room.make(0, 1));
        CHECK.dueThrow("pliesFor", Rooms.UNSUPPORTED, () -> room.pliesFor(0, 1));
        CHECK.due("made", 0, room.made(0));
        dueCanMake("the other style has a part", 5, room, 1);
        Rooms.shape(room, 'n', false, "00");
        for (int shape = 3; shape < 8; shape++) {
            room.addShape('n', false);
        }
        room.addPart(0, 7, 1);
        dueCanMake("a part with the last shape", 0, room, 0);
    }

    /** Promises 33 and 34, on both sides of each multiple of the count. */
    private static void asManyAsTheStockGives() {
        CuttingRoom room = roomWithCells();
        for (int count = 1; count <= 4; count++) {
            room.addStyle();
            room.addPart(count - 1, 0, count);
        }
        room.nest(0, false);
        for (int pieces = 0; pieces <= 13; pieces++) {
            for (int count = 1; count <= 4; count++) {
                dueCanMake(pieces + " pieces by " + count, pieces / count, room, count - 1);
            }
            room.spread(1);
        }
    }

    private static void theScarcestPartCounts() {
        CuttingRoom room = roomWithCells();
        room.addStyle();
        room.addPart(0, 0, 3);
        room.addPart(0, 1, 2);
        Rooms.cut(room, 0, false, 9);
        dueCanMake("no pair", 0, room, 0);
        Rooms.cut(room, 1, false, 20);
        Rooms.cut(room, 1, true, 20);
        dueCanMake("9 single ones by 3", 3, room, 0);
        Rooms.cut(room, 0, false, 20);
        dueCanMake("29 single ones by 3", 9, room, 0);
        Rooms.cut(room, 0, false, 1);
        dueCanMake("30 single ones by 3", 10, room, 0);
        Rooms.cut(room, 0, false, 30);
        dueCanMake("20 pairs by 2", 10, room, 0);
        CHECK.due("none was taken", 60, room.pieces(0, false));
        CHECK.due("none was taken", 20, room.pieces(1, false));
        CHECK.due("none was taken", 20, room.pieces(1, true));
        CHECK.due("none was made", 0, room.made(0));
    }

    /** "for a paired shape, the count is that of pairs of one plain and one mirrored piece". */
    private static void theScarcestSortCounts() {
        CuttingRoom room = roomWithCells();
        room.addStyle();
        room.addPart(0, 1, 2);
        Rooms.cut(room, 1, false, 10);
        dueCanMake("no mirrored one", 0, room, 0);
        Rooms.cut(room, 1, true, 1);
        dueCanMake("one mirrored one", 0, room, 0);
        Rooms.cut(room, 1, true, 1);
        dueCanMake("two mirrored ones", 1, room, 0);
        Rooms.cut(room, 1, true, 20);
        dueCanMake("10 plain ones, 22 mirrored ones", 5, room, 0);
    }

    /** A style can have a part with each of the eight shapes, and each one can be the one that is missing. */
    private static void eachOfEightShapesCounts() {
        for (int scarce = 0; scarce < 16; scarce++) {
            CuttingRoom room = new CuttingRoom();
            room.addStyle();
            room.addCloth(999);
            for (int shape = 0; shape < 8; shape++) {
                Rooms.shape(room, 'n', true, "00");
                room.addPart(0, shape, 2);
                room.nest(shape, false);
                room.nest(shape, true);
            }
            room.spread(6);
            int piece = scarce;
            CHECK.due("piece " + piece, 2, room.takeOff(piece));
            room.spread(3);
            dueCanMake("piece " + piece + " is scarce", 3, room, 0);
            CHECK.dueThrow("piece " + piece + " is scarce", Rooms.STATE, () -> room.make(0, 4));
            CHECK.dueThrow("piece " + piece + " is not in the marker", Rooms.STATE, () -> room.pliesFor(0, 4));
            CHECK.due("enough for three", 0, room.pliesFor(0, 3));
            CHECK.due("made", 3, room.make(0, 3));
            CHECK.due("none is left", 0, room.pieces(piece / 2, piece % 2 == 1));
            CHECK.due("three of the other sort are left", 3, room.pieces(piece / 2, piece % 2 == 0));
            CHECK.due("sound", true, room.isSound());
            room.nest(piece / 2, piece % 2 == 1);
            CHECK.due("in the marker again", 2, room.pliesFor(0, 1));
        }
    }

    /** A full stock gives 9999 garments of one piece. */
    private static void theMostGarmentsInStock() {
        CuttingRoom room = roomWithCells();
        room.addStyle();
        room.addStyle();
        room.addPart(0, 0, 1);
        room.addPart(1, 0, 4);
        Rooms.cut(room, 0, false, Rooms.STOCK - 1);
        dueCanMake("9998 by 1", 9998, room, 0);
        Rooms.cut(room, 0, false, 1);
        dueCanMake("9999 by 1", 9999, room, 0);
        dueCanMake("9999 by 4", 2499, room, 1);
        CHECK.due("99 garments of 4", 99, room.make(1, 99));
        dueCanMake("396 fewer", 9603, room, 0);
    }

    /** Promises 35 and 37: "the number of garments, 1 to 99". */
    private static void garmentsFrom1To99() {
        CuttingRoom room = roomWithCells();
        room.addStyle();
        room.addPart(0, 0, 1);
        Rooms.cut(room, 0, false, 200);
        room.nest(0, false);
        CHECK.dueThrowEach("make, garments", Rooms.outside(1, 99), Rooms.ARGUMENT, number -> room.make(0, number));
        CHECK.dueThrowEach("pliesFor, garments", Rooms.outside(1, 99), Rooms.ARGUMENT,
                number -> room.pliesFor(0, number));
        CHECK.due("none was made", 0, room.made(0));
        CHECK.due("1 garment", 1, room.make(0, 1));
        CHECK.due("99 garments", 100, room.make(0, 99));
        CHECK.due("100 pieces are left", 100, room.pieces(0, false));
        CHECK.due("98 garments", 198, room.make(0, 98));
        CHECK.due("2 garments", 200, room.make(0, 2));
        CHECK.due("plies for 1", 1, room.pliesFor(0, 1));
        CHECK.due("plies for 99", 99, room.pliesFor(0, 99));
    }

    /** Promise 35: "if there are too few pieces". */
    private static void tooFewPieces() {
        CuttingRoom room = roomWithCells();
        room.addStyle();
        room.addPart(0, 0, 2);
        CHECK.dueThrow("no piece", Rooms.STATE, () -> room.make(0, 1));
        Rooms.cut(room, 0, false, 1);
        CHECK.dueThrow("one piece for two", Rooms.STATE, () -> room.make(0, 1));
        Rooms.cut(room, 0, false, 1);
        CHECK.dueThrow("two pieces for four", Rooms.STATE, () -> room.make(0, 2));
        CHECK.due("two pieces for two", 1, room.make(0, 1));
        CHECK.due("none is left", 0, room.pieces(0, false));
        Rooms.cut(room, 0, false, 197);
        CHECK.dueThrow("197 pieces for 198", Rooms.STATE, () -> room.make(0, 99));
        CHECK.due("none was taken", 197, room.pieces(0, false));
        Rooms.cut(room, 0, false, 1);
        CHECK.due("198 pieces for 198", 100, room.make(0, 99));
        CHECK.dueThrow("none is left", Rooms.STATE, () -> room.make(0, 1));
        CHECK.due("100 garments", 100, room.made(0));
    }

    private static void tooFewPiecesOfOneSort() {
        CuttingRoom room = roomWithCells();
        room.addStyle();
        room.addPart(0, 0, 1);
        room.addPart(0, 1, 1);
        Rooms.cut(room, 0, false, 3);
        Rooms.cut(room, 1, false, 2);
        Rooms.cut(room, 1, true, 1);
        CHECK.dueThrow("one mirrored one for two", Rooms.STATE, () -> room.make(0, 2));
        CHECK.due("single ones stay", 3, room.pieces(0, false));
        CHECK.due("plain ones stay", 2, room.pieces(1, false));
        CHECK.due("one of each", 1, room.make(0, 1));
        CHECK.dueThrow("no mirrored one", Rooms.STATE, () -> room.make(0, 1));
        Rooms.cut(room, 1, true, 5);
        CHECK.due("one of each", 2, room.make(0, 1));
        CHECK.dueThrow("no plain one", Rooms.STATE, () -> room.make(0, 1));
        Rooms.cut(room, 1, false, 5);
        CHECK.due("one of each", 3, room.make(0, 1));
        CHECK.dueThrow("no single one", Rooms.STATE, () -> room.make(0, 1));
        CHECK.due("plain ones are left", 4, room.pieces(1, false));
        CHECK.due("mirrored ones are left", 3, room.pieces(1, true));
        CHECK.due("sound", true, room.isSound());
    }

    /** Promises 35 and 36: "the number of garments of the style that were made so far". */
    private static void garmentsThatWereMade() {
        CuttingRoom room = roomWithCells();
        for (int style = 0; style < 4; style++) {
            room.addStyle();
            room.addPart(style, 0, 1);
        }
        Rooms.cut(room, 0, false, 1000);
        for (int round = 1; round <= 4; round++) {
            for (int style = 0; style < 4; style++) {
                int number = 1 + 20 * style;
                CHECK.due("round " + round + ", style " + style, round * number, room.make(style, number));
                CHECK.due("made", round * number, room.made(style));
            }
        }
        CHECK.due("what is left", 1000 - 4 * (1 + 21 + 41 + 61), room.pieces(0, false));
        room.clear();
        CHECK.due("made, all the same", 4, room.made(0));
    }

    /** Promise 37: "the least number of plies": none if the stock is enough, whatever the marker is. */
    private static void noPliesIfTheStockIsEnough() {
        CuttingRoom room = roomWithCells();
        room.addStyle();
        room.addPart(0, 0, 2);
        CHECK.dueThrow("an empty marker, no stock", Rooms.STATE, () -> room.pliesFor(0, 1));
        Rooms.cut(room, 0, false, 10);
        CHECK.due("an empty marker, just enough", 0, room.pliesFor(0, 5));
        CHECK.dueThrow("an empty marker, too few", Rooms.STATE, () -> room.pliesFor(0, 6));
        room.nest(1, false);
        CHECK.due("another shape in the marker", 0, room.pliesFor(0, 5));
        CHECK.dueThrow("another shape in the marker, too few", Rooms.STATE, () -> room.pliesFor(0, 6));
        room.nest(0, false);
        CHECK.due("just enough", 0, room.pliesFor(0, 5));
        CHECK.due("two are missing", 2, room.pliesFor(0, 6));
        room.make(0, 5);
        CHECK.due("what was made does not count", 10, room.pliesFor(0, 5));
    }

    /** Promise 37, on both sides of each multiple of what a ply gives. */
    private static void theLeastNumberOfPlies() {
        CuttingRoom room = roomWithCells();
        room.addStyle();
        room.addPart(0, 0, 1);
        for (int perPly = 1; perPly <= 5; perPly++) {
            room.nest(0, false);
            for (int garments = 1; garments <= 16; garments++) {
                CHECK.due(garments + " by " + perPly, (garments + perPly - 1) / perPly, room.pliesFor(0, garments));
            }
        }
        room.spread(1);
        for (int garments = 1; garments <= 16; garments++) {
            CHECK.due(garments + ", with 5 in the stock", Math.max(garments - 1, 0) / 5, room.pliesFor(0, garments));
        }
    }

    /** 99 garments of four pieces, one of which is in the marker. */
    private static void theMostPlies() {
        CuttingRoom room = new CuttingRoom();
        Rooms.shape(room, 'n', false, "00");
        Rooms.shape(room, 'n', true, "00");
        room.addStyle();
        room.addPart(0, 0, 4);
        room.nest(0, false);
        CHECK.due("without cloth, more than 50 plies", 396, room.pliesFor(0, 99));
        room.addStyle();
        room.addPart(1, 1, 4);
        room.nest(1, false);
        CHECK.dueThrow("no mirrored piece", Rooms.STATE, () -> room.pliesFor(1, 99));
        room.nest(1, true);
        room.nest(1, true);
        CHECK.due("the sort that is scarcer", 396, room.pliesFor(1, 99));
        room.nest(1, false);
        CHECK.due("two of each", 198, room.pliesFor(1, 99));
        Rooms.nest(room, 1, false, Rooms.MARKER - 5);
        CHECK.due("a full marker, with two mirrored ones", 198, room.pliesFor(1, 99));
    }

    /** Promise 37: "if no number of plies is enough". */
    private static void noNumberOfPliesIsEnough() {
        CuttingRoom room = roomWithCells();
        room.addStyle();
        room.addPart(0, 0, 1);
        room.addPart(0, 1, 1);
        CHECK.dueThrow("none in the marker", Rooms.STATE, () -> room.pliesFor(0, 1));
        int plain = room.nest(1, false);
        int mirrored = room.nest(1, true);
        CHECK.dueThrow("no single one", Rooms.STATE, () -> room.pliesFor(0, 1));
        room.nest(0, false);
        CHECK.due("all are there", 99, room.pliesFor(0, 99));
        room.takeOff(plain);
        CHECK.dueThrow("no plain one", Rooms.STATE, () -> room.pliesFor(0, 1));
        room.nest(1, false);
        room.takeOff(mirrored);
        CHECK.dueThrow("no mirrored one", Rooms.STATE, () -> room.pliesFor(0, 1));
        room.nest(1, true);
        room.spread(1);
        room.clear();
        CHECK.due("enough in the stock", 0, room.pliesFor(0, 1));
        CHECK.dueThrow("not enough in the stock", Rooms.STATE, () -> room.pliesFor(0, 2));
    }

    /** On folded cloth, a ply gives two single ones, or a pair, for each piece of the marker. */
    private static void pliesOfFoldedCloth() {
        CuttingRoom room = roomWithCells();
        room.fold(true);
        room.addStyle();
        room.addStyle();
        room.addPart(0, 0, 1);
        room.addPart(1, 1, 1);
        room.nest(0, false);
        int[] due = {1, 1, 2, 2, 3};
        for (int garments = 1; garments <= 5; garments++) {
            CHECK.due("single ones, " + garments, due[garments - 1], room.pliesFor(0, garments));
        }
        CHECK.dueThrow("no pair", Rooms.STATE, () -> room.pliesFor(1, 1));
        room.nest(1, false);
        CHECK.due("pairs", 99, room.pliesFor(1, 99));
        CHECK.due("single ones", 50, room.pliesFor(0, 99));
    }

    /** Promise 37: "whatever the roll and the limits of plies and of the stock are". */
    private static void limitsDoNotCountForPlies() {
        CuttingRoom room = new CuttingRoom();
        int scarce = Rooms.shape(room, 'n', false, "00");
        int full = Rooms.shape(room, 'n', false, "00");
        room.addStyle();
        room.addPart(0, scarce, 4);
        room.nest(scarce, false);
        CHECK.due("no cloth on the roll", 4, room.pliesFor(0, 1));
        CHECK.due("more than 50 plies", 52, room.pliesFor(0, 13));
        room.addCloth(9999);
        Rooms.cut(room, full, false, Rooms.STOCK);
        room.nest(scarce, false);
        room.nest(full, false);
        CHECK.dueThrow("the stock is full", Rooms.STATE, () -> room.spread(1));
        CHECK.due("the stock is full", 396, room.pliesFor(0, 99));
    }

    /** Promise 39: "the number of columns on which pieces are laid"; "if the marker is empty". */
    private static void densities() {
        for (int width = 2; width <= 12; width++) {
            CuttingRoom room = new CuttingRoom();
            room.setCloth(width, false, 0);
            int cell = Rooms.shape(room, 'n', false, "00");
            CHECK.dueThrow("empty", Rooms.ARITHMETIC, () -> room.density());
            room.nest(cell, false);
            CHECK.due("width " + width, 1f / (float) width, room.density());
            room.lay(cell, 0, 59, 0, false);
            CHECK.due("60 rows, width " + width, 2f / (float) (60 * width), room.density());
            room.takeOff(0);
            room.takeOff(1);
            CHECK.dueThrow("empty again", Rooms.ARITHMETIC, () -> room.density());
            room.fold(true);
            CHECK.dueThrow("empty, folded", Rooms.ARITHMETIC, () -> room.density());
            room.nest(cell, false);
            CHECK.due("folded, width " + width, 1f / (float) (width / 2), room.density());
        }
    }

    /** Promise 40: "if the marker is empty". */
    private static void meansOfCells() {
        CuttingRoom room = new CuttingRoom();
        int one = Rooms.shape(room, 'n', false, "00");
        int square = Rooms.shape(room, 'n', false, Rooms.block(5, 5));
        CHECK.dueThrow("empty", Rooms.ARITHMETIC, () -> room.meanCells());
        room.nest(one, false);
        CHECK.due("one cell", 1.0, room.meanCells());
        room.nest(square, false);
        CHECK.due("26 cells", 13.0, room.meanCells());
        room.nest(one, false);
        CHECK.due("27 cells", 9.0, room.meanCells());
        room.nest(one, false);
        room.nest(one, false);
        room.nest(one, false);
        CHECK.due("30 cells by 6", 5.0, room.meanCells());
        room.nest(one, false);
        CHECK.due("31 cells by 7", 31.0 / 7.0, room.meanCells());
        room.clear();
        CHECK.dueThrow("empty again", Rooms.ARITHMETIC, () -> room.meanCells());
        room.nest(square, false);
        CHECK.due("25 cells", 25.0, room.meanCells());
        room.takeOff(0);
        CHECK.dueThrow("taken off", Rooms.ARITHMETIC, () -> room.meanCells());
    }

    /** Promise 41: new, with full marker, full stock and garments. */
    private static void soundRooms() {
        CuttingRoom room = new CuttingRoom();
        CHECK.due("new", true, room.isSound());
        int pair = Rooms.shape(room, 'q', true, "00 10 11");
        Rooms.nest(room, pair, false, 20);
        Rooms.nest(room, pair, true, 20);
        CHECK.due("a full marker", true, room.isSound());
        room.addCloth(9999);
        room.spread(50);
        CHECK.due("cut", true, room.isSound());
        for (int style = 0; style < 4; style++) {
            room.addStyle();
            room.addPart(style, pair, style + 1);
            room.make(style, 9);
            CHECK.due("garments of style " + style, true, room.isSound());
        }
        CHECK.due("the stock", 1000 - 9 * 10, room.pieces(pair, true));
        room.clear();
        room.fold(true);
        room.nest(pair, false);
        room.spread(7);
        CHECK.due("cut from folded cloth", true, room.isSound());
        CHECK.due("all", 2014L, room.cut());
        room.clear();
        CHECK.due("cleared", true, room.isSound());
    }
}
