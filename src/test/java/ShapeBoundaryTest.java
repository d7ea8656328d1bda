/** The boundary cases of 'Shapes', of the marks and of the promises 6 to 9. */
public final class ShapeBoundaryTest {
    private static final Check CHECK = new Check("ShapeBoundaryTest");

    private ShapeBoundaryTest() {
    }

    public static void main(String[] args) {
        rules();
        eightShapes();
        aNewShapeIsEmpty();
        cellsOfTheSquare();
        noCellOutside();
        noCellTwice();
        noCellWithAPieceInTheMarker();
        noCellIfAPieceWasEverCut();
        marksAndGroups();
        noMarkOutside();
        noMarkWithAPieceInTheMarker();
        aMarkNeedNotBeACell();
        remaindersAreNotLessThanZero();
        CHECK.end();
    }

    /** Promise 6: "its rule, 'n', 'h' or 'q'". */
    private static void rules() {
        for (int sign = 0; sign < 1024; sign++) {
            isRule((char) sign);
        }
        for (char rule : new char[] {'n', 'h', 'q'}) {
            isRule((char) (rule + 0x1000));
            isRule((char) (rule + 0x8000));
            isRule((char) (rule + 0xff00));
        }
        isRule(Character.MAX_VALUE);
    }

    private static void isRule(char rule) {
        CuttingRoom room = new CuttingRoom();
        boolean isRule = rule == 'n' || rule == 'h' || rule == 'q';
        for (int pairs = 0; pairs < 2; pairs++) {
            boolean isPaired = pairs == 1;
            CHECK.due("the rule " + (int) rule, isRule ? "" + pairs : "throws.IllegalArgumentException",
                    Rooms.outcome(() -> room.addShape(rule, isPaired)));
        }
    }

    /** "At most 8 shapes have the numbers 0, 1, 2 and so on"; "if there are 8 shapes". */
    private static void eightShapes() {
        CuttingRoom room = new CuttingRoom();
        for (int i = 0; i < 8; i++) {
            int number = i;
            CHECK.dueThrow("no shape " + i + " yet", Rooms.INDEX, () -> room.cellsOf(number));
            CHECK.dueThrow("no rule", Rooms.ARGUMENT, () -> room.addShape('x', false));
            CHECK.due("shape " + i, i, room.addShape('n', i % 2 == 0));
            CHECK.due("shape " + i + " is there", 0, room.cellsOf(i));
        }
        CHECK.dueThrow("a ninth, single", Rooms.STATE, () -> room.addShape('n', false));
        CHECK.dueThrow("a ninth, paired", Rooms.STATE, () -> room.addShape('q', true));
        CHECK.dueThrowEach("cellsOf", Rooms.outside(0, 7), Rooms.INDEX, shape -> room.cellsOf(shape));
        CHECK.due("a cell of the last one", 1, room.addCell(7, 0, 0));
        CHECK.due("no cell of the first one", 0, room.cellsOf(0));
    }

    /** Promise 6: "without cells and without a mark". */
    private static void aNewShapeIsEmpty() {
        CuttingRoom room = new CuttingRoom();
        room.addShape('q', true);
        CHECK.due("no cells", 0, room.cellsOf(0));
        CHECK.due("it cannot be laid", 'e', room.reason(0, 0, 0, 0, false));
        CHECK.due("no piece is in the stock", 0, room.pieces(0, false));
        CHECK.due("no mirrored piece is in the stock", 0, room.pieces(0, true));
        CHECK.due("no mark", -1, room.setMark(0, -1, 0, 0));
        CHECK.due("a cell can be added", 1, room.addCell(0, 2, 2));
        CHECK.due("it can be laid then", '-', room.reason(0, 0, 0, 0, false));
    }

    /** "a square of 5 rows and 5 columns, numbered from 0". */
    private static void cellsOfTheSquare() {
        CuttingRoom room = new CuttingRoom();
        room.addShape('n', false);
        int cells = 0;
        for (int row = 4; row >= 0; row--) {
            for (int column = 4; column >= 0; column--) {
                cells++;
                CHECK.due("the cell " + row + "," + column, cells, room.addCell(0, row, column));
                CHECK.due("cells", cells, room.cellsOf(0));
            }
        }
        for (int row = 0; row < 5; row++) {
            for (int column = 0; column < 5; column++) {
                int r = row;
                int c = column;
                CHECK.dueThrow("each cell is there", Rooms.UNSUPPORTED, () -> room.addCell(0, r, c));
            }
        }
        CHECK.due("no cell was added", 25, room.cellsOf(0));
        room.lay(0, 0, 55, 7, false);
        CHECK.due("25 cells in the marker", 25, room.used());
        CHECK.due("its first cell", 0, room.pieceAt(55, 7));
        CHECK.due("its last cell", 0, room.pieceAt(59, 11));
    }

    /** Promise 7: "0 to 4" for the row and the column; "if there is no such shape". */
    private static void noCellOutside() {
        CuttingRoom room = new CuttingRoom();
        CHECK.dueThrow("no shape at all", Rooms.INDEX, () -> room.addCell(0, 0, 0));
        room.addShape('n', false);
        room.addShape('n', true);
        CHECK.dueThrowEach("row", Rooms.outside(0, 4), Rooms.ARGUMENT, row -> room.addCell(1, row, 2));
        CHECK.dueThrowEach("column", Rooms.outside(0, 4), Rooms.ARGUMENT, column -> room.addCell(1, 2, column));
        CHECK.dueThrowEach("shape", Rooms.outside(0, 1), Rooms.INDEX, shape -> room.addCell(shape, 2, 2));
        CHECK.dueThrowEach("cellsOf", Rooms.outside(0, 1), Rooms.INDEX, shape -> room.cellsOf(shape));
        CHECK.due("no cell was added", 0, room.cellsOf(0));
        CHECK.due("no cell was added", 0, room.cellsOf(1));
        CHECK.due("each shape has its own cells", 1, room.addCell(1, 0, 4));
        CHECK.due("each shape has its own cells", 1, room.addCell(0, 0, 4));
    }

    /** Promise 7: "if the shape has this cell". */
    private static void noCellTwice() {
        CuttingRoom room = new CuttingRoom();
        int shape = Rooms.shape(room, 'n', false, "04 40");
        CHECK.dueThrow("the first one", Rooms.UNSUPPORTED, () -> room.addCell(shape, 0, 4));
        CHECK.dueThrow("the second one", Rooms.UNSUPPORTED, () -> room.addCell(shape, 4, 0));
        CHECK.due("the cell in the row before", 3, room.addCell(shape, 3, 4));
        CHECK.due("the cell in the column before", 4, room.addCell(shape, 0, 3));
        int other = room.addShape('n', false);
        CHECK.due("another shape has it not", 1, room.addCell(other, 0, 4));
    }

    /** Promise 7: "if a piece of the shape is in the marker". */
    private static void noCellWithAPieceInTheMarker() {
        CuttingRoom room = new CuttingRoom();
        int shape = Rooms.shape(room, 'n', true, "00");
        int other = Rooms.shape(room, 'n', false, "00");
        room.lay(shape, 0, 0, 0, true);
        CHECK.dueThrow("a mirrored piece", Rooms.STATE, () -> room.addCell(shape, 0, 1));
        room.lay(shape, 0, 0, 1, false);
        CHECK.dueThrow("two pieces", Rooms.STATE, () -> room.addCell(shape, 0, 1));
        room.takeOff(0);
        CHECK.dueThrow("a plain piece", Rooms.STATE, () -> room.addCell(shape, 0, 1));
        CHECK.due("a shape without pieces", 2, room.addCell(other, 0, 1));
        room.lay(other, 0, 59, 0, false);
        room.takeOff(1);
        CHECK.due("no piece of it is left", 2, room.addCell(shape, 0, 1));
        CHECK.dueThrow("a piece of the other shape", Rooms.STATE, () -> room.addCell(other, 0, 2));
        room.clear();
        CHECK.due("the marker is cleared", 3, room.addCell(other, 0, 2));
    }

    /** Promise 7: ".. or was ever cut", even if it is in the stock no more. */
    private static void noCellIfAPieceWasEverCut() {
        CuttingRoom room = new CuttingRoom();
        int single = Rooms.shape(room, 'n', false, "00");
        int paired = Rooms.shape(room, 'n', true, "00");
        int other = Rooms.shape(room, 'n', false, "00");
        room.nest(single, false);
        CHECK.dueThrow("no cloth, nothing is cut", Rooms.STATE, () -> room.spread(1));
        room.clear();
        CHECK.due("nothing was cut", 2, room.addCell(single, 0, 1));
        room.addCloth(3);
        room.nest(single, false);
        room.spread(1);
        room.clear();
        CHECK.dueThrow("cut once", Rooms.STATE, () -> room.addCell(single, 0, 2));
        CHECK.due("the others were not cut", 2, room.addCell(other, 0, 1));
        room.addStyle();
        room.addPart(0, single, 1);
        room.make(0, 1);
        CHECK.due("none is in the stock", 0, room.pieces(single, false));
        CHECK.dueThrow("cut once, all the same", Rooms.STATE, () -> room.addCell(single, 0, 2));
        CHECK.due("the paired one was not cut", 2, room.addCell(paired, 0, 1));
        room.nest(paired, true);
        room.spread(1);
        room.clear();
        CHECK.dueThrow("a mirrored piece was cut", Rooms.STATE, () -> room.addCell(paired, 0, 2));
        CHECK.due("cells stay as they were", 2, room.cellsOf(paired));
        CHECK.due("cells stay as they were", 2, room.cellsOf(single));
    }

    /** Promise 8: "the group, 0 to 3, or -1 for no mark"; "the group before the call, or -1". */
    private static void marksAndGroups() {
        CuttingRoom room = new CuttingRoom();
        room.addShape('n', false);
        int before = -1;
        for (int group : new int[] {-1, 0, 1, 2, 3, -1, -1, 3, 3, 0, -1}) {
            for (int corner = 0; corner < 4; corner++) {
                CHECK.due("the group before " + group, before,
                        room.setMark(0, group, corner / 2 * 4, corner % 2 * 4));
                before = group;
            }
        }
        room.addShape('n', false);
        CHECK.due("another shape has its own mark", -1, room.setMark(1, 2, 4, 4));
        CHECK.due("the first one has none", -1, room.setMark(0, -1, 0, 0));
    }

    /** Promise 8: "0 to 4, also if there is none". */
    private static void noMarkOutside() {
        CuttingRoom room = new CuttingRoom();
        CHECK.dueThrow("no shape at all", Rooms.INDEX, () -> room.setMark(0, 0, 0, 0));
        Rooms.shape(room, 'n', false, "00");
        room.setMark(0, 2, 3, 0);
        for (int group = -1; group <= 3; group += 4) {
            int asked = group;
            CHECK.dueThrowEach("group " + group + ", row", Rooms.outside(0, 4), Rooms.ARGUMENT,
                    row -> room.setMark(0, asked, row, 0));
            CHECK.dueThrowEach("group " + group + ", column", Rooms.outside(0, 4), Rooms.ARGUMENT,
                    column -> room.setMark(0, asked, 0, column));
        }
        CHECK.dueThrowEach("group", Rooms.outside(-1, 3), Rooms.ARGUMENT, group -> room.setMark(0, group, 0, 0));
        CHECK.dueThrowEach("shape", Rooms.outside(0, 0), Rooms.INDEX, shape -> room.setMark(shape, 0, 0, 0));
        room.setCloth(12, false, 6);
        room.lay(0, 0, 1, 0, false);
        CHECK.due("the mark stays in row 3", 4, room.phase(2));
        room.clear();
        CHECK.due("the group stays", 2, room.setMark(0, -1, 0, 0));
    }

    /** Promise 8: "if a piece of the shape is in the marker", but not if one was cut. */
    private static void noMarkWithAPieceInTheMarker() {
        CuttingRoom room = new CuttingRoom();
        room.setCloth(12, false, 6);
        int shape = Rooms.shape(room, 'n', true, "00");
        int other = Rooms.shape(room, 'n', false, "00");
        room.setMark(shape, 1, 2, 2);
        room.lay(shape, 0, 0, 0, true);
        CHECK.dueThrow("another group", Rooms.STATE, () -> room.setMark(shape, 0, 0, 0));
        CHECK.dueThrow("no mark", Rooms.STATE, () -> room.setMark(shape, -1, 0, 0));
        CHECK.dueThrow("the same mark", Rooms.STATE, () -> room.setMark(shape, 1, 2, 2));
        CHECK.due("the mark is where it was", 2, room.phase(1));
        CHECK.due("a shape without pieces", -1, room.setMark(other, 1, 0, 0));
        CHECK.due("its mark counts", 's', room.reason(other, 0, 0, 1, false));
        CHECK.due("its mark counts", '-', room.reason(other, 0, 2, 1, false));
        room.takeOff(0);
        CHECK.due("the piece is taken off", 1, room.setMark(shape, 0, 4, 4));
        room.nest(shape, false);
        room.addCloth(1);
        room.spread(1);
        CHECK.dueThrow("cut, and still in the marker", Rooms.STATE, () -> room.setMark(shape, 1, 2, 2));
        room.clear();
        CHECK.due("cut, but no more in the marker", 0, room.setMark(shape, -1, 0, 0));
    }

    /** "which need not be one of its cells, and which is mirrored, turned and moved as they are". */
    private static void aMarkNeedNotBeACell() {
        int[] plain = {-2, -1, 2, 1};
        int[] mirrored = {-2, 1, 2, -1};
        for (int turns = 0; turns < 4; turns++) {
            CuttingRoom room = new CuttingRoom();
            room.setCloth(12, false, 6);
            int shape = Rooms.shape(room, 'q', true, "22");
            room.setMark(shape, 0, 0, 1);
            room.lay(shape, turns, 2, 0, false);
            CHECK.due("the mark beside a plain piece, turns " + turns, 2 + plain[turns], room.phase(0));
            room.clear();
            room.lay(shape, turns, 2, 0, true);
            CHECK.due("the mark beside a mirrored piece, turns " + turns, 2 + mirrored[turns], room.phase(0));
        }
    }

    /** "remainders are not less than 0": a mark can be above the first row of the cloth. */
    private static void remaindersAreNotLessThanZero() {
        for (int stripes = 2; stripes <= 6; stripes++) {
            for (int row = 0; row < 6; row++) {
                CuttingRoom room = new CuttingRoom();
                room.setCloth(12, false, stripes);
                int high = Rooms.shape(room, 'n', false, "40");
                int low = Rooms.shape(room, 'n', false, "00");
                room.setMark(high, 3, 0, 0);
                room.setMark(low, 3, 4, 0);
                room.lay(high, 0, row, 0, false);
                int remainder = (row - 4 + 60) % stripes;
                CHECK.due("row " + (row - 4) + " by " + stripes, remainder, room.phase(3));
                for (int other = 0; other < 12; other++) {
                    CHECK.due("row " + (other + 4) + " beside row " + (row - 4) + " by " + stripes,
                            (other + 4) % stripes == remainder ? '-' : 's', room.reason(low, 0, other, 1, false));
                }
            }
        }
    }
}
