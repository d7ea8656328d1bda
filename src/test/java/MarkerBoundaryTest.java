/** The boundary cases of 'Marker' and of the promises 13 to 23. */
public final class MarkerBoundaryTest {
    private static final Check CHECK = new Check("MarkerBoundaryTest");

    private MarkerBoundaryTest() {
    }

    public static void main(String[] args) {
        noPieceWithoutPieces();
        piecesThatAreTakenOff();
        numbersAreNotUsedAgain();
        numbersAreNotUsedAgainForLong();
        clearedMarkers();
        whereAPieceLies();
        cellsOfAPieceAlone();
        cellsInEachCorner();
        cellsOutside();
        cellsBesideNarrowCloth();
        lengths();
        cellsThatAreUsed();
        groups();
        remaindersOfAGroup();
        noStripesNoRemainder();
        CHECK.end();
    }

    private static void dueNoPiece(String what, CuttingRoom room, int piece) {
        CHECK.dueThrow(what + ", takeOff " + piece, Rooms.ELEMENT, () -> room.takeOff(piece));
        CHECK.dueThrow(what + ", rowOf " + piece, Rooms.ELEMENT, () -> room.rowOf(piece));
        CHECK.dueThrow(what + ", columnOf " + piece, Rooms.ELEMENT, () -> room.columnOf(piece));
        CHECK.dueThrow(what + ", turnsOf " + piece, Rooms.ELEMENT, () -> room.turnsOf(piece));
    }

    /** "if there is no such piece in the marker", empty, with one piece and with 40. */
    private static void noPieceWithoutPieces() {
        CuttingRoom room = new CuttingRoom();
        int cell = Rooms.shape(room, 'n', false, "00");
        int[] numbers = {-1, 40, 41, Rooms.LOW, Rooms.HIGH, 256, 1 << 16};
        for (int piece : numbers) {
            dueNoPiece("empty", room, piece);
        }
        dueNoPiece("empty", room, 0);
        room.nest(cell, false);
        for (int piece : numbers) {
            dueNoPiece("one piece", room, piece);
        }
        dueNoPiece("one piece", room, 1);
        CHECK.due("the first piece", 0, room.rowOf(0));
        Rooms.nest(room, cell, false, Rooms.MARKER - 1);
        for (int piece : numbers) {
            dueNoPiece("40 pieces", room, piece);
        }
        CHECK.due("the last piece", 3, room.rowOf(39));
        CHECK.due("no piece was taken off", 40, room.inMarker());
    }

    /** Promise 13: "the length of the marker after the call". */
    private static void piecesThatAreTakenOff() {
        CuttingRoom room = new CuttingRoom();
        int bar = Rooms.shape(room, 'n', false, "00 10");
        room.lay(bar, 0, 0, 0, false);
        room.lay(bar, 0, 58, 0, false);
        room.lay(bar, 0, 57, 1, false);
        room.lay(bar, 0, 57, 2, false);
        CHECK.due("a longer one is left", 60, room.takeOff(2));
        CHECK.due("one as long is left", 59, room.takeOff(1));
        CHECK.dueThrow("taken off already", Rooms.ELEMENT, () -> room.takeOff(1));
        CHECK.due("the first one is left", 2, room.takeOff(3));
        dueNoPiece("taken off already", room, 3);
        CHECK.due("one is left", 1, room.inMarker());
        CHECK.due("none is left", 0, room.takeOff(0));
        dueNoPiece("empty again", room, 0);
        CHECK.due("empty again", 0, room.inMarker());
        CHECK.due("no length", 0, room.length());
        for (int i = 4; i < 44; i++) {
            CHECK.due("piece " + i, i, room.nest(bar, false));
        }
        for (int i = 4; i < 43; i++) {
            room.takeOff(i);
            CHECK.due("pieces that are left", 43 - i, room.inMarker());
        }
        CHECK.due("the last one of 40", 6, room.rowOf(43));
        CHECK.due("none is left", 0, room.takeOff(43));
    }

    /** "a number is not used again until clear() is called". */
    private static void numbersAreNotUsedAgain() {
        CuttingRoom room = new CuttingRoom();
        int cell = Rooms.shape(room, 'n', false, "00");
        CHECK.due("the first number", 0, room.nest(cell, false));
        CHECK.dueThrow("no piece is laid", Rooms.UNSUPPORTED, () -> room.lay(cell, 0, 0, 0, false));
        CHECK.due("no number is lost", 1, room.nest(cell, false));
        room.takeOff(1);
        CHECK.due("the last one was taken off", 2, room.nest(cell, false));
        room.takeOff(0);
        room.takeOff(2);
        CHECK.due("all were taken off", 3, room.nest(cell, false));
        CHECK.due("clear()", 1, room.clear());
        CHECK.due("numbers begin again", 0, room.nest(cell, false));
        room.takeOff(0);
        CHECK.due("clear() without pieces", 0, room.clear());
        CHECK.due("numbers begin again", 0, room.nest(cell, false));
        dueNoPiece("the numbers before are gone", room, 3);
    }

    private static void numbersAreNotUsedAgainForLong() {
        CuttingRoom room = new CuttingRoom();
        int cell = Rooms.shape(room, 'n', false, "00");
        room.nest(cell, false);
        for (int i = 1; i < 250; i++) {
            CHECK.due("piece " + i, i, room.nest(cell, false));
            CHECK.due("one row", 1, room.takeOff(i));
        }
        CHECK.due("the first one is still there", 0, room.pieceAt(0, 0));
        CHECK.due("numbers go on", 250, room.lay(cell, 0, 59, 11, false));
        CHECK.due("numbers go on", 250, room.pieceAt(59, 11));
        CHECK.due("numbers go on", 250, room.pieceByPieces(59, 11));
    }

    /** Promise 14: "the number of pieces that were in it", 0 to 40. */
    private static void clearedMarkers() {
        CuttingRoom room = new CuttingRoom();
        room.setCloth(12, false, 3);
        int cell = Rooms.shape(room, 'n', false, "00");
        room.setMark(cell, 0, 0, 0);
        CHECK.due("empty", 0, room.clear());
        CHECK.due("empty still", 0, room.clear());
        room.nest(cell, false);
        CHECK.due("one piece", 1, room.clear());
        room.addFlaw(5, 5);
        room.addCloth(7);
        Rooms.nest(room, cell, false, Rooms.MARKER);
        CHECK.due("40 pieces", 40, room.clear());
        CHECK.due("none is left", 0, room.inMarker());
        CHECK.due("no length", 0, room.length());
        CHECK.due("no cells", 0, room.used());
        CHECK.dueThrow("no remainder", Rooms.STATE, () -> room.phase(0));
        CHECK.dueThrow("no piece has the cell", Rooms.STATE, () -> room.pieceAt(0, 0));
        CHECK.dueThrow("no piece has the cell", Rooms.STATE, () -> room.pieceByPieces(0, 0));
        CHECK.dueThrow("no density", Rooms.ARITHMETIC, () -> room.density());
        dueNoPiece("cleared", room, 0);
        dueNoPiece("cleared", room, 39);
        CHECK.due("the flaw stays", 'f', room.reason(cell, 0, 5, 5, false));
        CHECK.due("the roll stays", 7, room.roll());
        CHECK.due("another remainder", 0, room.lay(cell, 0, 1, 0, false));
        CHECK.due("another remainder", 1, room.phase(0));
    }

    /** Promises 15 to 18, at the edges of the cloth. */
    private static void whereAPieceLies() {
        CuttingRoom room = new CuttingRoom();
        int shape = Rooms.shape(room, 'q', true, "11 12 22");
        CHECK.due("none", 0, room.inMarker());
        int[][] places = {{0, 0, 0}, {0, 10, 1}, {58, 0, 2}, {58, 10, 3}};
        for (int i = 0; i < 4; i++) {
            int[] place = places[i];
            CHECK.due("piece " + i, i, room.lay(shape, place[2], place[0], place[1], i % 2 == 1));
            CHECK.due("pieces", i + 1, room.inMarker());
        }
        for (int i = 0; i < 4; i++) {
            CHECK.due("the row of " + i, places[i][0], room.rowOf(i));
            CHECK.due("the column of " + i, places[i][1], room.columnOf(i));
            CHECK.due("the turns of " + i, places[i][2], room.turnsOf(i));
        }
        dueNoPiece("four pieces", room, 4);
    }

    /** "the piece that has a cell of the cloth": not the square round it. */
    private static void cellsOfAPieceAlone() {
        CuttingRoom room = new CuttingRoom();
        int shape = Rooms.shape(room, 'q', true, "00 02 20");
        room.lay(shape, 0, 10, 5, false);
        room.lay(shape, 2, 11, 4, false);
        for (int row = 9; row <= 14; row++) {
            for (int column = 3; column <= 8; column++) {
                int r = row;
                int c = column;
                boolean isFirst = r == 10 && (c == 5 || c == 7) || r == 12 && c == 5;
                boolean isSecond = r == 13 && (c == 4 || c == 6) || r == 11 && c == 6;
                String due = isFirst ? "0" : isSecond ? "1" : "throws.IllegalStateException";
                CHECK.due("pieceAt " + r + "," + c, due, Rooms.outcome(() -> room.pieceAt(r, c)));
                CHECK.due("pieceByPieces " + r + "," + c, due, Rooms.outcome(() -> room.pieceByPieces(r, c)));
            }
        }
    }

    /** Promises 19 and 20: "the row, 0 to 59 .. the column, 0 to 11". */
    private static void cellsInEachCorner() {
        CuttingRoom room = new CuttingRoom();
        int cell = Rooms.shape(room, 'n', false, "00");
        int[][] corners = {{0, 0}, {0, 11}, {59, 0}, {59, 11}};
        for (int[] corner : corners) {
            CHECK.dueThrow("no piece", Rooms.STATE, () -> room.pieceAt(corner[0], corner[1]));
            CHECK.dueThrow("no piece", Rooms.STATE, () -> room.pieceByPieces(corner[0], corner[1]));
        }
        for (int i = 0; i < 4; i++) {
            room.lay(cell, 0, corners[i][0], corners[i][1], false);
            CHECK.due("corner " + i, i, room.pieceAt(corners[i][0], corners[i][1]));
            CHECK.due("corner " + i, i, room.pieceByPieces(corners[i][0], corners[i][1]));
        }
        CHECK.dueThrow("beside a corner", Rooms.STATE, () -> room.pieceAt(1, 0));
        CHECK.dueThrow("beside a corner", Rooms.STATE, () -> room.pieceByPieces(58, 11));
    }

    private static void cellsOutside() {
        CuttingRoom room = new CuttingRoom();
        int cell = Rooms.shape(room, 'n', false, "00");
        Rooms.nest(room, cell, false, Rooms.MARKER);
        CHECK.dueThrowEach("pieceAt, row", Rooms.outside(0, 59), Rooms.ARGUMENT, row -> room.pieceAt(row, 0));
        CHECK.dueThrowEach("pieceAt, column", Rooms.outside(0, 11), Rooms.ARGUMENT, column -> room.pieceAt(1, column));
        CHECK.dueThrowEach("pieceByPieces, row", Rooms.outside(0, 59), Rooms.ARGUMENT,
                row -> room.pieceByPieces(row, 0));
        CHECK.dueThrowEach("pieceByPieces, column", Rooms.outside(0, 11), Rooms.ARGUMENT,
                column -> room.pieceByPieces(1, column));
        CHECK.dueThrow("both", Rooms.ARGUMENT, () -> room.pieceAt(60, 12));
        CHECK.dueThrow("both", Rooms.ARGUMENT, () -> room.pieceByPieces(-1, -1));
    }

    /** The columns 0 to 11 can be asked for whatever the width of the cloth is; no piece has those beyond. */
    private static void cellsBesideNarrowCloth() {
        CuttingRoom room = new CuttingRoom();
        room.setCloth(4, false, 0);
        room.fold(true);
        int cell = Rooms.shape(room, 'n', false, "00");
        room.lay(cell, 0, 3, 0, false);
        room.lay(cell, 0, 3, 1, false);
        for (int i = 0; i < 12; i++) {
            int column = i;
            String due = i < 2 ? "" + i : "throws.IllegalStateException";
            CHECK.due("pieceAt, column " + i, due, Rooms.outcome(() -> room.pieceAt(3, column)));
            CHECK.due("pieceByPieces, column " + i, due, Rooms.outcome(() -> room.pieceByPieces(3, column)));
        }
        CHECK.dueThrow("column 12", Rooms.ARGUMENT, () -> room.pieceAt(3, 12));
        CHECK.dueThrow("column 12", Rooms.ARGUMENT, () -> room.pieceByPieces(3, 12));
    }

    /** "The length .. is 1 plus the greatest row of a cell of its pieces, and 0 if it is empty." */
    private static void lengths() {
        CuttingRoom room = new CuttingRoom();
        int cell = Rooms.shape(room, 'n', false, "00");
        int tall = Rooms.shape(room, 'q', false, Rooms.block(5, 1));
        CHECK.due("empty", 0, room.length());
        room.lay(cell, 0, 0, 0, false);
        CHECK.due("the first row", 1, room.length());
        room.lay(tall, 0, 1, 0, false);
        CHECK.due("five rows more", 6, room.length());
        room.lay(tall, 1, 6, 0, false);
        CHECK.due("turned", 7, room.length());
        room.lay(cell, 0, 58, 0, false);
        CHECK.due("row 58", 59, room.length());
        room.lay(tall, 2, 55, 1, false);
        CHECK.due("row 59", 60, room.length());
        room.addFlaw(59, 5);
        room.takeOff(4);
        CHECK.due("row 58 again; flaws do not count", 59, room.length());
        room.takeOff(0);
        CHECK.due("a piece before it was taken off", 59, room.length());
        room.clear();
        CHECK.due("empty again", 0, room.length());
    }

    /** Promise 22, empty and with the most cells that there can be. */
    private static void cellsThatAreUsed() {
        CuttingRoom room = new CuttingRoom();
        int square = Rooms.shape(room, 'n', false, Rooms.block(5, 5));
        int bar = Rooms.shape(room, 'q', false, Rooms.block(5, 2));
        CHECK.due("none", 0, room.used());
        Rooms.nest(room, square, false, 24);
        CHECK.due("24 squares", 600, room.used());
        CHECK.dueThrow("no more squares", Rooms.ELEMENT, () -> room.nest(square, false));
        Rooms.nest(room, bar, false, 12);
        CHECK.due("all cells of the cloth", 720, room.used());
        CHECK.due("all rows of the cloth", 60, room.length());
        CHECK.due("density", 1f, room.density());
        CHECK.due("mean", 20.0, room.meanCells());
        CHECK.due("sound", true, room.isSound());
        CHECK.due("the last cell", 35, room.pieceAt(59, 11));
        CHECK.due("the last cell", 35, room.pieceByPieces(59, 11));
        room.takeOff(0);
        CHECK.due("one is taken off", 695, room.used());
        room.clear();
        CHECK.due("none again", 0, room.used());
        room.fold(true);
        room.nest(square, false);
        CHECK.due("folded cloth is not counted twice", 25, room.used());
    }

    /** Promise 23: "the group, 0 to 3". */
    private static void groups() {
        CuttingRoom room = new CuttingRoom();
        room.setCloth(12, false, 6);
        int shape = Rooms.shape(room, 'n', false, "00");
        CHECK.dueThrowEach("empty, phase", Rooms.outside(0, 3), Rooms.ARGUMENT, group -> room.phase(group));
        for (int i = 0; i < 4; i++) {
            int group = i;
            room.setMark(shape, group, 0, 0);
            CHECK.dueThrow("no piece of group " + group, Rooms.STATE, () -> room.phase(group));
            room.lay(shape, 0, 5, 0, false);
            for (int asked = 0; asked < 4; asked++) {
                int other = asked;
                CHECK.due("group " + other + " with a piece of group " + group,
                        other == group ? "5" : "throws.IllegalStateException", Rooms.outcome(() -> room.phase(other)));
            }
            CHECK.dueThrowEach("phase", Rooms.outside(0, 3), Rooms.ARGUMENT, asked -> room.phase(asked));
            room.clear();
        }
        room.setMark(shape, -1, 0, 0);
        room.lay(shape, 0, 5, 0, false);
        CHECK.dueThrow("no group -1", Rooms.ARGUMENT, () -> room.phase(-1));
        CHECK.dueThrow("a piece without a mark", Rooms.STATE, () -> room.phase(0));
    }

    /** "no piece of the marker is of the group": the last one counts, whichever was laid first. */
    private static void remaindersOfAGroup() {
        CuttingRoom room = new CuttingRoom();
        room.setCloth(12, false, 4);
        int shape = Rooms.shape(room, 'n', false, "00");
        int other = Rooms.shape(room, 'n', false, "22");
        room.setMark(shape, 2, 0, 0);
        room.setMark(other, 2, 4, 4);
        room.lay(shape, 0, 3, 0, false);
        room.lay(other, 0, 5, 0, false);
        CHECK.due("row 3 and row 7", 3, room.phase(2));
        room.takeOff(0);
        CHECK.due("row 7", 3, room.phase(2));
        CHECK.due("the group still has its remainder", 's', room.reason(shape, 0, 8, 0, false));
        room.takeOff(1);
        CHECK.dueThrow("none", Rooms.STATE, () -> room.phase(2));
        room.lay(shape, 0, 8, 0, false);
        CHECK.due("row 8, another remainder", 0, room.phase(2));
        room.takeOff(2);
        room.lay(other, 0, 57, 0, false);
        CHECK.due("row 59", 3, room.phase(2));
    }

    /** Promise 23: "if the stripe number is less than 2". */
    private static void noStripesNoRemainder() {
        CuttingRoom room = new CuttingRoom();
        int shape = Rooms.shape(room, 'n', false, "00");
        room.setMark(shape, 0, 0, 0);
        for (int stripes = 0; stripes < 3; stripes++) {
            room.setCloth(12, false, stripes);
            String due = stripes < 2 ? "throws.IllegalStateException" : "0";
            room.lay(shape, 0, 0, 0, false);
            CHECK.due("stripe number " + stripes, due, Rooms.outcome(() -> room.phase(0)));
            room.lay(shape, 0, 2, 0, false);
            CHECK.due("row 1, stripe number " + stripes, stripes < 2 ? '-' : 's', room.reason(shape, 0, 1, 0, false));
            room.clear();
        }
    }
}
