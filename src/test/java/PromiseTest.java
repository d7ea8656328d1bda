import java.util.NoSuchElementException;

/** For each promise: ordinary inputs, the edges that the document names, and wrong inputs. */
public final class PromiseTest {
    private static final Class<IllegalArgumentException> ARGUMENT = IllegalArgumentException.class;
    private static final Class<IllegalStateException> STATE = IllegalStateException.class;
    private static final Class<UnsupportedOperationException> UNSUPPORTED = UnsupportedOperationException.class;
    private static final Class<IndexOutOfBoundsException> INDEX = IndexOutOfBoundsException.class;
    private static final Class<NoSuchElementException> ELEMENT = NoSuchElementException.class;
    private static final Class<ArithmeticException> ARITHMETIC = ArithmeticException.class;

    private static final int LOW = Integer.MIN_VALUE;
    private static final int HIGH = Integer.MAX_VALUE;

    private static final Check CHECK = new Check("PromiseTest");

    private PromiseTest() {
    }

    public static void main(String[] args) {
        clothPromises();
        shapePromises();
        layingPromises();
        markerPromises();
        stylePromises();
        nestingPromises();
        cuttingPromises();
        garmentPromises();
        sharePromises();
        longUse();
        CHECK.end();
    }

    private static void clothPromises() {
        promise1();
        promise2();
        promise3();
        promise4();
        promise4Folded();
        promise5();
    }

    private static void shapePromises() {
        promise6();
        promise7();
        promise8();
        promise9();
    }

    private static void layingPromises() {
        promise10();
        promise11();
        promise11Turns();
        promise11Mirrored();
        promise11Stripes();
        promise11MarkOutside();
        promise12();
        promise12Order();
    }

    private static void markerPromises() {
        promise13();
        promise14();
        promises15To18();
        promises19And20();
        promise21();
        promise22();
        promise23();
    }

    private static void stylePromises() {
        promise24();
        promise25();
        promise26();
    }

    private static void nestingPromises() {
        promises27And28();
        promises27And28Folded();
        promises27And28Orders();
        promises27And28Impossible();
    }

    private static void cuttingPromises() {
        promises29And30();
        promise31();
        promise31Stock();
        promise32();
        promise38();
    }

    private static void garmentPromises() {
        promises33And34();
        promises35And36();
        promise37();
        promise37Folded();
    }

    private static void sharePromises() {
        promises39And40();
        promise41();
    }

    private static void due(int promise, String what, Object want, Object got) {
        CHECK.due("promise " + promise + ", " + what, want, got);
    }

    private static void dueThrow(int promise, String what, Class<? extends RuntimeException> want, Check.Call call) {
        CHECK.dueThrow("promise " + promise + ", " + what, want, call);
    }

    private static int shape(CuttingRoom room, char rule, boolean isPaired, String cells) {
        return Rooms.shape(room, rule, isPaired, cells);
    }

    /** All rows and columns that the piece has, such as "0,0 1,0 1,1"; each cell of its square is asked for. */
    private static String cellsOfPiece(CuttingRoom room, int piece) {
        StringBuilder cells = new StringBuilder();
        int top = room.rowOf(piece);
        int left = room.columnOf(piece);
        for (int row = top; row < Math.min(top + 5, 60); row++) {
            for (int column = left; column < Math.min(left + 5, 12); column++) {
                if (owner(room, row, column) == piece) {
                    cells.append(cells.length() > 0 ? " " : "").append(row).append(',').append(column);
                }
            }
        }
        return cells.toString();
    }

    private static int owner(CuttingRoom room, int row, int column) {
        try {
            return room.pieceAt(row, column);
        } catch (IllegalStateException e) {
            return -1;
        }
    }

    private static void promise1() {
        CuttingRoom room = new CuttingRoom();
        due(1, "inMarker", 0, room.inMarker());
        due(1, "roll", 0, room.roll());
        due(1, "cut", 0L, room.cut());
        due(1, "length", 0, room.length());
        due(1, "used", 0, room.used());
        due(1, "isSound", true, room.isSound());
        due(1, "the number of flaws", 0, room.clearFlaws());
        dueThrow(1, "cellsOf without shapes", INDEX, () -> room.cellsOf(0));
        dueThrow(1, "piecesFor without styles", INDEX, () -> room.piecesFor(0));
        dueThrow(1, "phase without stripes", STATE, () -> room.phase(0));
        due(1, "open at first", false, room.fold(false));
        int shape = shape(room, 'q', false, "00");
        due(1, "no nap at first", '-', room.reason(shape, 1, 0, 11, false));
        due(1, "12 columns at first", 'o', room.reason(shape, 0, 0, 12, false));
        due(1, "12 at first", 12, room.setCloth(12, false, 0));
        CuttingRoom other = new CuttingRoom();
        other.addCloth(5);
        due(1, "another room has its own roll", 0, room.roll());
    }

    private static void promise2() {
        CuttingRoom room = new CuttingRoom();
        due(2, "the width before", 12, room.setCloth(2, false, 0));
        due(2, "the width before", 2, room.setCloth(7, true, 6));
        int shape = shape(room, 'q', false, "00");
        due(2, "nap", 't', room.reason(shape, 1, 0, 0, false));
        due(2, "the last column", '-', room.reason(shape, 0, 0, 6, false));
        due(2, "behind the last column", 'o', room.reason(shape, 0, 0, 7, false));
        dueThrow(2, "width 1", ARGUMENT, () -> room.setCloth(1, false, 0));
        dueThrow(2, "width 13", ARGUMENT, () -> room.setCloth(13, false, 0));
        dueThrow(2, "stripes -1", ARGUMENT, () -> room.setCloth(5, false, -1));
        dueThrow(2, "stripes 7", ARGUMENT, () -> room.setCloth(5, false, 7));
        dueThrow(2, "extreme numbers", ARGUMENT, () -> room.setCloth(LOW, false, HIGH));
        room.lay(shape, 0, 0, 0, false);
        dueThrow(2, "a full marker", STATE, () -> room.setCloth(7, true, 6));
        dueThrow(2, "the argument comes first", ARGUMENT, () -> room.setCloth(1, true, 6));
        room.clear();
        room.addFlaw(0, 0);
        dueThrow(2, "a flaw", STATE, () -> room.setCloth(7, true, 6));
        room.clearFlaws();
        due(2, "nothing has changed", 7, room.setCloth(12, false, 1));
        due(2, "no nap any more", '-', room.reason(shape, 1, 0, 11, false));
    }

    private static void promise3() {
        CuttingRoom room = new CuttingRoom();
        int shape = shape(room, 'n', true, "00");
        room.setCloth(7, false, 0);
        due(3, "open before", false, room.fold(true));
        due(3, "folded before", true, room.fold(true));
        due(3, "half of 7 is 3", '-', room.reason(shape, 0, 0, 2, false));
        due(3, "half of 7 is 3", 'o', room.reason(shape, 0, 0, 3, false));
        due(3, "no mirrored piece", 'm', room.reason(shape, 0, 0, 0, true));
        room.nest(shape, false);
        dueThrow(3, "a full marker", STATE, () -> room.fold(true));
        dueThrow(3, "a full marker", STATE, () -> room.fold(false));
        room.clear();
        due(3, "still folded", true, room.fold(false));
        due(3, "all columns again", '-', room.reason(shape, 0, 0, 6, true));
        room.addFlaw(0, 6);
        due(3, "with flaws it can be folded", false, room.fold(true));
        due(3, "the flaw is under column 0", 'f', room.reason(shape, 0, 0, 0, false));
        due(3, "and opened", true, room.fold(false));
        due(3, "column 0 has no flaw then", '-', room.reason(shape, 0, 0, 0, false));
        due(3, "column 6 has", 'f', room.reason(shape, 0, 0, 6, false));
    }

    private static void promise4() {
        CuttingRoom room = new CuttingRoom();
        int shape = shape(room, 'n', false, "00");
        room.setCloth(10, false, 0);
        due(4, "the first flaw", 1, room.addFlaw(0, 0));
        due(4, "the same again", 1, room.addFlaw(0, 0));
        due(4, "the last cell", 2, room.addFlaw(59, 9));
        due(4, "the flaw", 'f', room.reason(shape, 0, 59, 9, false));
        due(4, "no flaw", '-', room.reason(shape, 0, 58, 9, false));
        due(4, "the opposite column of open cloth has none", '-', room.reason(shape, 0, 0, 9, false));
        dueThrow(4, "row -1", ARGUMENT, () -> room.addFlaw(-1, 0));
        dueThrow(4, "row 60", ARGUMENT, () -> room.addFlaw(60, 0));
        dueThrow(4, "column -1", ARGUMENT, () -> room.addFlaw(0, -1));
        dueThrow(4, "column 10", ARGUMENT, () -> room.addFlaw(0, 10));
        dueThrow(4, "extreme numbers", ARGUMENT, () -> room.addFlaw(HIGH, LOW));
        room.lay(shape, 0, 30, 5, false);
        dueThrow(4, "a piece", UNSUPPORTED, () -> room.addFlaw(30, 5));
        due(4, "over the opposite column of a piece", 3, room.addFlaw(30, 4));
        for (int i = 4; i <= 12; i++) {
            due(4, "the flaw number " + i, i, room.addFlaw(i, i % 3));
        }
        dueThrow(4, "flaw 13", STATE, () -> room.addFlaw(40, 0));
        due(4, "one of the 12", 12, room.addFlaw(59, 9));
        dueThrow(4, "the piece comes before the number", UNSUPPORTED, () -> room.addFlaw(30, 5));
        dueThrow(4, "the argument comes before the number", ARGUMENT, () -> room.addFlaw(40, 10));
        due(4, "nothing has changed", '-', room.reason(shape, 0, 40, 0, false));
    }

    private static void promise4Folded() {
        CuttingRoom room = new CuttingRoom();
        int shape = shape(room, 'n', false, "00 01");
        room.setCloth(9, false, 0);
        room.fold(true);
        room.lay(shape, 0, 3, 1, false);
        dueThrow(4, "under the piece", UNSUPPORTED, () -> room.addFlaw(3, 2));
        dueThrow(4, "over the piece", UNSUPPORTED, () -> room.addFlaw(3, 6));
        dueThrow(4, "over the piece", UNSUPPORTED, () -> room.addFlaw(3, 7));
        due(4, "beside the piece", 1, room.addFlaw(3, 5));
        due(4, "in the fold", 2, room.addFlaw(3, 4));
        due(4, "the opposite one counts, too", 3, room.addFlaw(3, 3));
        due(4, "on the other side", 4, room.addFlaw(9, 8));
        due(4, "is one here, too", 'f', room.reason(shape, 0, 9, 0, false));
        due(4, "not in the next column", '-', room.reason(shape, 0, 9, 1, false));
    }

    private static void promise5() {
        CuttingRoom room = new CuttingRoom();
        int shape = shape(room, 'n', false, "00");
        due(5, "without flaws", 0, room.clearFlaws());
        room.addFlaw(0, 0);
        room.addFlaw(0, 1);
        room.addFlaw(0, 1);
        room.lay(shape, 0, 1, 0, false);
        due(5, "two flaws", 2, room.clearFlaws());
        due(5, "none is left", 0, room.clearFlaws());
        due(5, "the cell can be used", '-', room.reason(shape, 0, 0, 0, false));
        due(5, "the piece is still there", 1, room.inMarker());
        due(5, "a flaw again", 1, room.addFlaw(0, 1));
        room.clear();
        room.fold(true);
        room.clearFlaws();
        due(5, "on folded cloth", '-', room.reason(shape, 0, 0, 1, false));
    }

    private static void promise6() {
        CuttingRoom room = new CuttingRoom();
        for (char rule = 0; rule < 300; rule++) {
            char tried = rule;
            if (rule != 'n' && rule != 'h' && rule != 'q') {
                dueThrow(6, "the rule " + (int) rule, ARGUMENT, () -> room.addShape(tried, false));
            }
        }
        due(6, "the first", 0, room.addShape('n', false));
        due(6, "no cells", 0, room.cellsOf(0));
        due(6, "no mark", -1, room.setMark(0, -1, 0, 0));
        for (int i = 1; i < 8; i++) {
            due(6, "the number", i, room.addShape("nhq".charAt(i % 3), i % 2 == 0));
        }
        dueThrow(6, "a ninth", STATE, () -> room.addShape('q', true));
        dueThrow(6, "the argument comes first", ARGUMENT, () -> room.addShape('Q', true));
        due(6, "the eighth", 0, room.cellsOf(7));
        dueThrow(6, "no ninth", INDEX, () -> room.cellsOf(8));
    }

    private static void promise7() {
        CuttingRoom room = new CuttingRoom();
        int shape = room.addShape('n', false);
        due(7, "the first cell", 1, room.addCell(shape, 0, 0));
        due(7, "the last cell", 2, room.addCell(shape, 4, 4));
        due(7, "another", 3, room.addCell(shape, 4, 0));
        dueThrow(7, "shape 1", INDEX, () -> room.addCell(1, 0, 0));
        dueThrow(7, "shape -1", INDEX, () -> room.addCell(-1, 9, 9));
        dueThrow(7, "shape 8", INDEX, () -> room.addCell(8, 0, 0));
        dueThrow(7, "extreme numbers", INDEX, () -> room.addCell(HIGH, 0, 0));
        dueThrow(7, "row -1", ARGUMENT, () -> room.addCell(shape, -1, 0));
        dueThrow(7, "row 5", ARGUMENT, () -> room.addCell(shape, 5, 0));
        dueThrow(7, "column -1", ARGUMENT, () -> room.addCell(shape, 0, -1));
        dueThrow(7, "column 5", ARGUMENT, () -> room.addCell(shape, 0, 5));
        dueThrow(7, "extreme numbers", ARGUMENT, () -> room.addCell(shape, HIGH, LOW));
        dueThrow(7, "a cell twice", UNSUPPORTED, () -> room.addCell(shape, 4, 4));
        int piece = room.lay(shape, 0, 0, 0, false);
        dueThrow(7, "a piece in the marker", STATE, () -> room.addCell(shape, 1, 1));
        dueThrow(7, "the cell comes before the marker", UNSUPPORTED, () -> room.addCell(shape, 0, 0));
        room.takeOff(piece);
        due(7, "taken off", 4, room.addCell(shape, 1, 1));
        due(7, "nothing was changed before", 4, room.cellsOf(shape));
        int other = shape(room, 'n', false, "00");
        room.nest(other, false);
        room.addCloth(1);
        room.spread(1);
        room.clear();
        dueThrow(7, "a piece was cut", STATE, () -> room.addCell(other, 1, 1));
        room.addStyle();
        room.addPart(0, other, 1);
        room.make(0, 1);
        dueThrow(7, "the piece is in a garment", STATE, () -> room.addCell(other, 1, 1));
        due(7, "the other shape was not cut", 5, room.addCell(shape, 2, 2));
        int whole = room.addShape('q', true);
        for (int i = 0; i < 25; i++) {
            due(7, "cell " + i, i + 1, room.addCell(whole, i / 5, i % 5));
        }
    }

    private static void promise8() {
        CuttingRoom room = new CuttingRoom();
        room.setCloth(12, false, 5);
        int shape = shape(room, 'n', false, "00");
        due(8, "no mark before", -1, room.setMark(shape, 0, 0, 0));
        due(8, "group 0 before", 0, room.setMark(shape, 3, 4, 4));
        due(8, "group 3 before", 3, room.setMark(shape, -1, 4, 4));
        due(8, "no mark before", -1, room.setMark(shape, 2, 4, 0));
        dueThrow(8, "shape 1", INDEX, () -> room.setMark(1, 9, 9, 9));
        dueThrow(8, "shape -1", INDEX, () -> room.setMark(-1, 0, 0, 0));
        dueThrow(8, "group -2", ARGUMENT, () -> room.setMark(shape, -2, 0, 0));
        dueThrow(8, "group 4", ARGUMENT, () -> room.setMark(shape, 4, 0, 0));
        dueThrow(8, "row -1", ARGUMENT, () -> room.setMark(shape, 0, -1, 0));
        dueThrow(8, "row 5, without a mark", ARGUMENT, () -> room.setMark(shape, -1, 5, 0));
        dueThrow(8, "column -1, without a mark", ARGUMENT, () -> room.setMark(shape, -1, 0, -1));
        dueThrow(8, "column 5", ARGUMENT, () -> room.setMark(shape, 0, 0, 5));
        dueThrow(8, "extreme numbers", ARGUMENT, () -> room.setMark(shape, LOW, HIGH, HIGH));
        room.lay(shape, 0, 0, 0, false);
        due(8, "the mark as it was set", 4, room.phase(2));
        dueThrow(8, "a piece in the marker", STATE, () -> room.setMark(shape, 2, 4, 0));
        dueThrow(8, "the argument comes first", ARGUMENT, () -> room.setMark(shape, 2, 4, 5));
        int other = shape(room, 'n', false, "11");
        due(8, "another shape", -1, room.setMark(other, 2, 0, 0));
        due(8, "a mark above the cells", 's', room.reason(other, 0, 1, 0, false));
        due(8, "a mark in row -1", 'p', room.reason(other, 0, 0, 0, false));
        due(8, "a mark in row -1", '-', room.reason(other, 0, 0, 1, false));
        room.clear();
        due(8, "after clear()", 2, room.setMark(shape, -1, 0, 0));
        room.lay(shape, 0, 0, 0, false);
        dueThrow(8, "without a mark", STATE, () -> room.phase(2));
        room.addCloth(1);
        room.spread(1);
        room.clear();
        due(8, "a shape that was cut", -1, room.setMark(shape, 1, 0, 0));
    }

    private static void promise9() {
        CuttingRoom room = new CuttingRoom();
        shape(room, 'n', false, "00 34 44");
        shape(room, 'q', true, "22");
        due(9, "three cells", 3, room.cellsOf(0));
        due(9, "one cell", 1, room.cellsOf(1));
        dueThrow(9, "shape 2", INDEX, () -> room.cellsOf(2));
        dueThrow(9, "shape -1", INDEX, () -> room.cellsOf(-1));
        dueThrow(9, "shape 8", INDEX, () -> room.cellsOf(8));
        dueThrow(9, "extreme numbers", INDEX, () -> room.cellsOf(LOW));
        dueThrow(9, "extreme numbers", INDEX, () -> room.cellsOf(HIGH));
    }

    private static void promise10() {
        CuttingRoom room = new CuttingRoom();
        int shape = shape(room, 'q', true, "00 10 11");
        due(10, "the first", 0, room.lay(shape, 0, 2, 3, false));
        due(10, "its cells", "2,3 3,3 3,4", cellsOfPiece(room, 0));
        due(10, "the second", 1, room.lay(shape, 1, 2, 6, false));
        due(10, "its cells", "2,6 2,7 3,6", cellsOfPiece(room, 1));
        due(10, "the third", 2, room.lay(shape, 3, 10, 0, true));
        due(10, "its cells", "10,0 10,1 11,1", cellsOfPiece(room, 2));
        dueThrow(10, "shape 1", INDEX, () -> room.lay(1, 9, 0, 0, false));
        dueThrow(10, "shape -1", INDEX, () -> room.lay(-1, 0, 0, 0, false));
        dueThrow(10, "turns -1", ARGUMENT, () -> room.lay(shape, -1, 0, 0, false));
        dueThrow(10, "turns 4, and a piece", ARGUMENT, () -> room.lay(shape, 4, 2, 3, false));
        dueThrow(10, "a piece", UNSUPPORTED, () -> room.lay(shape, 0, 2, 3, false));
        dueThrow(10, "extreme numbers", UNSUPPORTED, () -> room.lay(shape, 0, HIGH, HIGH, false));
        dueThrow(10, "extreme numbers", UNSUPPORTED, () -> room.lay(shape, 0, LOW, LOW, false));
        due(10, "no number is lost", 3, room.lay(shape, 0, 20, 0, false));
        for (int i = 4; i < 40; i++) {
            room.lay(shape, 0, 22 + 2 * (i / 6), 2 * (i % 6), false);
        }
        due(10, "40 pieces", 40, room.inMarker());
        dueThrow(10, "piece 41", STATE, () -> room.lay(shape, 0, 50, 0, false));
        dueThrow(10, "the reason comes before the number", UNSUPPORTED, () -> room.lay(shape, 0, 2, 3, false));
        dueThrow(10, "the turns come before the number", ARGUMENT, () -> room.lay(shape, HIGH, 50, 0, false));
        due(10, "40 pieces still", 40, room.inMarker());
        room.takeOff(39);
        due(10, "a number is not used again", 40, room.lay(shape, 0, 50, 0, false));
    }

    private static void promise11() {
        CuttingRoom room = new CuttingRoom();
        room.setCloth(4, true, 0);
        int empty = room.addShape('n', false);
        int shape = shape(room, 'q', false, "11 12");
        due(11, "'e' before all others", 'e', room.reason(empty, 1, -1, -1, true));
        due(11, "'t' before 'm' and 'o'", 't', room.reason(shape, 1, -1, -1, true));
        due(11, "'m' before 'o'", 'm', room.reason(shape, 0, -1, -1, true));
        due(11, "above the cloth", 'o', room.reason(shape, 0, -1, 0, false));
        due(11, "left of the cloth", 'o', room.reason(shape, 0, 0, -1, false));
        due(11, "the last row and column", '-', room.reason(shape, 0, 59, 2, false));
        due(11, "below the cloth", 'o', room.reason(shape, 0, 60, 2, false));
        due(11, "right of the cloth", 'o', room.reason(shape, 0, 59, 3, false));
        due(11, "extreme numbers", 'o', room.reason(shape, 0, HIGH, HIGH, false));
        due(11, "extreme numbers", 'o', room.reason(shape, 0, LOW, LOW, false));
        room.lay(shape, 0, 0, 0, false);
        room.addFlaw(0, 2);
        due(11, "'f' before 'p'", 'f', room.reason(shape, 0, 0, 1, false));
        due(11, "a piece", 'p', room.reason(shape, 0, 0, 0, false));
        due(11, "a flaw", 'f', room.reason(shape, 0, 0, 2, false));
        due(11, "'o' before 'f'", 'o', room.reason(shape, 0, 0, 3, false));
        due(11, "nothing", '-', room.reason(shape, 0, 1, 0, false));
        dueThrow(11, "shape 2", INDEX, () -> room.reason(2, 9, 0, 0, false));
        dueThrow(11, "shape -1", INDEX, () -> room.reason(-1, 0, 0, 0, false));
        dueThrow(11, "turns -1", ARGUMENT, () -> room.reason(shape, -1, 0, 0, false));
        dueThrow(11, "turns 4", ARGUMENT, () -> room.reason(empty, 4, 0, 0, false));
        dueThrow(11, "extreme numbers", ARGUMENT, () -> room.reason(shape, LOW, 0, 0, false));
        due(11, "nothing is laid", 1, room.inMarker());
        int gap = shape(room, 'n', false, "00 02 40");
        due(11, "the gap of a shape is free", '-', room.reason(gap, 0, 1, 1, false));
        room.lay(gap, 0, 1, 0, false);
        due(11, "a piece in the gap", '-', room.reason(gap, 0, 1, 1, false));
    }

    private static void promise11Turns() {
        CuttingRoom room = new CuttingRoom();
        String[] dueAnswers = {"-ttt", "-t-t", "----"};
        for (int i = 0; i < 3; i++) {
            int shape = shape(room, "nhq".charAt(i), true, "00 01");
            for (int turns = 0; turns < 4; turns++) {
                char due = dueAnswers[i].charAt(turns);
                due(11, "rule " + i + ", turns " + turns, due, room.reason(shape, turns, 0, 0, false));
                due(11, "mirrored, rule " + i + ", turns " + turns, due, room.reason(shape, turns, 0, 0, true));
            }
        }
        room.setCloth(12, true, 0);
        for (int shape = 0; shape < 3; shape++) {
            for (int turns = 1; turns < 4; turns++) {
                due(11, "with a nap, shape " + shape, 't', room.reason(shape, turns, 0, 0, false));
            }
            due(11, "with a nap, as it is drawn", '-', room.reason(shape, 0, 0, 0, false));
            due(11, "with a nap, mirrored", '-', room.reason(shape, 0, 0, 0, true));
        }
    }

    private static void promise11Mirrored() {
        CuttingRoom room = new CuttingRoom();
        int shape = shape(room, 'q', true, "00 01 02 12 24");
        String[] plain = {"0,0 0,1 0,2 1,2 2,4", "0,2 1,2 2,1 2,2 4,0", "0,0 1,2 2,2 2,3 2,4", "0,2 2,0 2,1 3,0 4,0"};
        String[] mirrored = {"0,2 0,3 0,4 1,2 2,0", "0,0 2,1 2,2 3,2 4,2", "0,4 1,2 2,0 2,1 2,2", "0,0 1,0 2,0 2,1 4,2"};
        for (int turns = 0; turns < 4; turns++) {
            room.clear();
            room.lay(shape, turns, 0, 0, false);
            due(11, "plain, turns " + turns, plain[turns], cellsOfPiece(room, 0));
            room.clear();
            room.lay(shape, turns, 0, 0, true);
            due(11, "mirrored, turns " + turns, mirrored[turns], cellsOfPiece(room, 0));
        }
        room.clear();
        room.fold(true);
        due(11, "a paired shape on folded cloth", 'm', room.reason(shape, 0, 0, 0, true));
        due(11, "a plain piece on folded cloth", '-', room.reason(shape, 0, 0, 1, false));
        due(11, "beyond the fold", 'o', room.reason(shape, 0, 0, 2, false));
    }

    private static void promise11Stripes() {
        CuttingRoom room = new CuttingRoom();
        room.setCloth(12, false, 4);
        int first = shape(room, 'q', true, "00 10");
        int second = shape(room, 'n', false, "00");
        room.setMark(first, 1, 1, 0);
        due(11, "the first of its group", '-', room.reason(first, 0, 2, 0, false));
        room.lay(first, 0, 2, 0, false);
        due(11, "the same remainder", '-', room.reason(first, 0, 6, 0, false));
        due(11, "the same row", '-', room.reason(first, 0, 2, 5, true));
        due(11, "another remainder", 's', room.reason(first, 0, 7, 0, false));
        due(11, "'p' before 's'", 'p', room.reason(first, 0, 3, 0, false));
        due(11, "turned by a half", 's', room.reason(first, 2, 6, 0, false));
        due(11, "turned by a half", '-', room.reason(first, 2, 7, 0, false));
        due(11, "without a mark", '-', room.reason(second, 0, 5, 0, false));
        room.setMark(second, 2, 0, 0);
        due(11, "of another group", '-', room.reason(second, 0, 5, 0, false));
        room.setMark(second, 1, 0, 0);
        due(11, "of the same group", 's', room.reason(second, 0, 5, 0, false));
        due(11, "of the same group", '-', room.reason(second, 0, 7, 0, false));
        room.takeOff(0);
        due(11, "the group is free again", '-', room.reason(second, 0, 5, 0, false));
        room.setCloth(12, false, 1);
        room.lay(first, 0, 2, 0, false);
        due(11, "stripe number 1", '-', room.reason(second, 0, 5, 0, false));
        room.clear();
        room.setCloth(12, false, 2);
        room.lay(first, 0, 2, 0, false);
        due(11, "stripe number 2", 's', room.reason(second, 0, 6, 0, false));
        due(11, "stripe number 2", '-', room.reason(second, 0, 5, 0, false));
    }

    /** The mark need not be one of the cells: it can lie above, below and beside them. */
    private static void promise11MarkOutside() {
        CuttingRoom room = new CuttingRoom();
        room.setCloth(12, false, 6);
        int above = shape(room, 'q', true, "40 41");
        room.setMark(above, 0, 0, 3);
        room.lay(above, 0, 0, 0, false);
        due(11, "the mark in row -4", 2, room.phase(0));
        room.clear();
        room.lay(above, 1, 0, 0, false);
        due(11, "the mark in row 3", 3, room.phase(0));
        room.clear();
        room.lay(above, 2, 0, 0, false);
        due(11, "the mark in row 4", 4, room.phase(0));
        room.clear();
        room.lay(above, 3, 0, 0, false);
        due(11, "the mark in row -2", 4, room.phase(0));
        room.clear();
        room.lay(above, 1, 0, 0, true);
        due(11, "mirrored, the mark in row -2", 4, room.phase(0));
        due(11, "plain, not turned", 's', room.reason(above, 0, 5, 0, false));
        due(11, "plain, not turned", '-', room.reason(above, 0, 8, 0, false));
        room.clear();
        room.addCell(above, 2, 0);
        room.lay(above, 0, 0, 0, false);
        due(11, "the new cell moves the mark to row -2", 4, room.phase(0));
    }

    private static void promise12() {
        CuttingRoom room = new CuttingRoom();
        room.setCloth(4, false, 0);
        int shape = shape(room, 'q', false, "00 10 11");
        int paired = shape(room, 'n', true, "00 01 11");
        int empty = room.addShape('q', true);
        due(12, "the first", 0, room.nest(shape, false));
        due(12, "the second", 1, room.nest(shape, false));
        due(12, "turned by a half", "0,1 0,2 1,2", cellsOfPiece(room, 1));
        due(12, "a paired one", 2, room.nest(paired, false));
        due(12, "its cells", "2,0 2,1 3,1", cellsOfPiece(room, 2));
        due(12, "a mirrored one", 3, room.nest(paired, true));
        due(12, "its cells", "2,2 2,3 3,2", cellsOfPiece(room, 3));
        dueThrow(12, "shape 3", INDEX, () -> room.nest(3, false));
        dueThrow(12, "shape -1", INDEX, () -> room.nest(-1, true));
        dueThrow(12, "extreme numbers", INDEX, () -> room.nest(HIGH, true));
        dueThrow(12, "without cells", ELEMENT, () -> room.nest(empty, false));
        dueThrow(12, "a mirrored piece of a single shape", ELEMENT, () -> room.nest(shape, true));
        int wide = shape(room, 'n', false, "00 01 02 03 04");
        dueThrow(12, "too wide", ELEMENT, () -> room.nest(wide, false));
        int tall = shape(room, 'q', false, "00 01 02 03 04");
        int piece = room.nest(tall, false);
        due(12, "turned by a quarter", 1, room.turnsOf(piece));
        due(12, "below the plain one", "3,0 4,0 5,0 6,0 7,0", cellsOfPiece(room, piece));
        room.clear();
        int cell = shape(room, 'n', false, "33");
        for (int i = 0; i < 40; i++) {
            due(12, "row by row", i, room.nest(cell, false));
        }
        due(12, "row by row", 9, room.rowOf(39));
        due(12, "row by row", 3, room.columnOf(39));
        dueThrow(12, "piece 41", STATE, () -> room.nest(cell, false));
        dueThrow(12, "nowhere comes before the number", ELEMENT, () -> room.nest(wide, false));
        due(12, "40 pieces still", 40, room.inMarker());
        room.takeOff(6);
        due(12, "the gap is filled", 40, room.nest(cell, false));
        due(12, "the gap is filled", 1, room.rowOf(40));
        due(12, "the gap is filled", 2, room.columnOf(40));
    }

    /** First the row counts, then the column, then the turns; flaws, folds and stripes are kept clear of. */
    private static void promise12Order() {
        CuttingRoom room = new CuttingRoom();
        room.setCloth(6, false, 3);
        int bar = shape(room, 'q', false, "00 10");
        room.addFlaw(0, 0);
        room.nest(bar, false);
        due(12, "column 1, not turned", "0,1 1,1", cellsOfPiece(room, 0));
        room.addFlaw(1, 2);
        room.nest(bar, false);
        due(12, "column 2, turned", "0,2 0,3", cellsOfPiece(room, 1));
        due(12, "column 2, turned", 1, room.turnsOf(1));
        room.clear();
        room.clearFlaws();
        room.fold(true);
        room.addFlaw(0, 5);
        room.addFlaw(0, 1);
        room.nest(bar, false);
        due(12, "folded", "0,2 1,2", cellsOfPiece(room, 0));
        room.nest(bar, false);
        due(12, "folded", "1,0 2,0", cellsOfPiece(room, 1));
        room.clear();
        room.clearFlaws();
        int marked = shape(room, 'n', false, "00 01 02");
        room.setMark(marked, 0, 2, 2);
        room.lay(marked, 0, 1, 0, false);
        room.nest(marked, false);
        due(12, "with stripes", 4, room.rowOf(1));
        room.lay(marked, 0, 7, 0, false);
        room.takeOff(0);
        room.takeOff(1);
        room.nest(marked, false);
        due(12, "with stripes", 1, room.rowOf(3));
        room.clear();
        int block = shape(room, 'n', false, "00 20 40 02 22 42");
        for (int i = 0; i < 20; i++) {
            room.lay(marked, 0, 3 * i, 0, false);
        }
        dueThrow(12, "no room", ELEMENT, () -> room.nest(block, false));
        room.takeOff(19);
        due(12, "the last row", 20, room.nest(marked, false));
        due(12, "the last row", 57, room.rowOf(20));
    }

    private static void promise13() {
        CuttingRoom room = new CuttingRoom();
        int shape = shape(room, 'n', false, "00 10");
        dueThrow(13, "an empty marker", ELEMENT, () -> room.takeOff(0));
        room.lay(shape, 0, 0, 0, false);
        room.lay(shape, 0, 10, 0, false);
        room.lay(shape, 0, 5, 0, false);
        dueThrow(13, "piece 3", ELEMENT, () -> room.takeOff(3));
        dueThrow(13, "piece -1", ELEMENT, () -> room.takeOff(-1));
        dueThrow(13, "extreme numbers", ELEMENT, () -> room.takeOff(LOW));
        due(13, "the length", 7, room.takeOff(1));
        dueThrow(13, "taken off already", ELEMENT, () -> room.takeOff(1));
        due(13, "its cell is free", -1, owner(room, 10, 0));
        due(13, "another is still there", 2, room.pieceAt(6, 0));
        due(13, "another is still there", 2, room.pieceByPieces(6, 0));
        due(13, "the length", 7, room.takeOff(0));
        due(13, "one is left", 1, room.inMarker());
        due(13, "the length", 0, room.takeOff(2));
        due(13, "none is left", 0, room.inMarker());
        due(13, "numbers go on", 3, room.lay(shape, 0, 0, 0, false));
    }

    private static void promise14() {
        CuttingRoom room = new CuttingRoom();
        due(14, "an empty marker", 0, room.clear());
        room.setCloth(12, false, 2);
        int shape = shape(room, 'n', false, "00");
        room.setMark(shape, 0, 0, 0);
        for (int i = 0; i < 5; i++) {
            room.lay(shape, 0, 2 * i, 2, false);
        }
        room.takeOff(2);
        due(14, "four pieces", 4, room.clear());
        due(14, "none", 0, room.inMarker());
        due(14, "no length", 0, room.length());
        due(14, "no cells", 0, room.used());
        due(14, "the cell is free", -1, owner(room, 0, 2));
        dueThrow(14, "no piece", ELEMENT, () -> room.rowOf(0));
        dueThrow(14, "no group", STATE, () -> room.phase(0));
        due(14, "numbers begin again", 0, room.lay(shape, 0, 1, 0, false));
        due(14, "the group is new", 1, room.phase(0));
        room.takeOff(0);
        due(14, "the marker is empty by then", 0, room.clear());
        due(14, "numbers begin again all the same", 0, room.lay(shape, 0, 1, 0, false));
    }

    private static void promises15To18() {
        CuttingRoom room = new CuttingRoom();
        int shape = shape(room, 'q', true, "00 10 11");
        due(15, "none", 0, room.inMarker());
        room.lay(shape, 0, 4, 7, false);
        room.lay(shape, 3, 9, 2, true);
        due(15, "two", 2, room.inMarker());
        due(16, "the first", 4, room.rowOf(0));
        due(16, "the second", 9, room.rowOf(1));
        due(17, "the first", 7, room.columnOf(0));
        due(17, "the second", 2, room.columnOf(1));
        due(18, "the first", 0, room.turnsOf(0));
        due(18, "the second", 3, room.turnsOf(1));
        room.takeOff(0);
        due(15, "one", 1, room.inMarker());
        due(16, "the other is still there", 9, room.rowOf(1));
        due(17, "the other is still there", 2, room.columnOf(1));
        due(18, "the other is still there", 3, room.turnsOf(1));
        for (int piece : new int[] {0, 2, -1, LOW, HIGH}) {
            dueThrow(16, "piece " + piece, ELEMENT, () -> room.rowOf(piece));
            dueThrow(17, "piece " + piece, ELEMENT, () -> room.columnOf(piece));
            dueThrow(18, "piece " + piece, ELEMENT, () -> room.turnsOf(piece));
        }
    }

    private static void promises19And20() {
        CuttingRoom room = new CuttingRoom();
        room.setCloth(5, false, 0);
        int shape = shape(room, 'q', true, "00 10 11");
        room.lay(shape, 1, 0, 0, false);
        room.lay(shape, 0, 58, 3, false);
        room.lay(shape, 0, 10, 0, true);
        int[][] cells = {{0, 0, 0}, {0, 1, 0}, {1, 0, 0}, {58, 3, 1}, {59, 3, 1}, {59, 4, 1}, {10, 1, 2}, {11, 0, 2}};
        for (int[] cell : cells) {
            due(19, "the owner", cell[2], room.pieceAt(cell[0], cell[1]));
            due(20, "the owner", cell[2], room.pieceByPieces(cell[0], cell[1]));
        }
        int[][] free = {{1, 1}, {58, 4}, {10, 0}, {30, 2}, {0, 11}, {59, 11}, {57, 4}, {59, 2}};
        for (int[] cell : free) {
            dueThrow(19, "a free cell", STATE, () -> room.pieceAt(cell[0], cell[1]));
            dueThrow(20, "a free cell", STATE, () -> room.pieceByPieces(cell[0], cell[1]));
        }
        int[][] outside = {{-1, 0}, {60, 0}, {0, -1}, {0, 12}, {59, 12}, {-1, 12}, {HIGH, HIGH}, {LOW, LOW}};
        for (int[] cell : outside) {
            dueThrow(19, "outside", ARGUMENT, () -> room.pieceAt(cell[0], cell[1]));
            dueThrow(20, "outside", ARGUMENT, () -> room.pieceByPieces(cell[0], cell[1]));
        }
    }

    private static void promise21() {
        CuttingRoom room = new CuttingRoom();
        int shape = shape(room, 'n', false, "11 41");
        due(21, "an empty marker", 0, room.length());
        room.lay(shape, 0, 0, 0, false);
        due(21, "one piece", 4, room.length());
        room.lay(shape, 0, 56, 0, false);
        due(21, "to the end", 60, room.length());
        room.lay(shape, 0, 20, 0, false);
        due(21, "the greatest row counts", 60, room.length());
        room.takeOff(1);
        due(21, "the greatest row that is left", 24, room.length());
    }

    private static void promise22() {
        CuttingRoom room = new CuttingRoom();
        int three = shape(room, 'q', false, "00 10 11");
        int one = shape(room, 'q', false, "44");
        due(22, "an empty marker", 0, room.used());
        room.lay(three, 0, 0, 0, false);
        due(22, "three", 3, room.used());
        room.lay(one, 0, 20, 0, false);
        due(22, "four", 4, room.used());
        room.takeOff(0);
        due(22, "one", 1, room.used());
        room.clear();
        room.fold(true);
        room.nest(three, false);
        due(22, "on folded cloth", 3, room.used());
    }

    private static void promise23() {
        CuttingRoom room = new CuttingRoom();
        room.setCloth(12, false, 2);
        int shape = shape(room, 'n', false, "00");
        int other = shape(room, 'n', false, "00");
        room.setMark(shape, 3, 0, 0);
        room.setMark(other, 0, 4, 0);
        dueThrow(23, "no piece", STATE, () -> room.phase(3));
        room.lay(shape, 0, 7, 0, false);
        due(23, "row 7 by 2", 1, room.phase(3));
        dueThrow(23, "no piece of this group", STATE, () -> room.phase(0));
        dueThrow(23, "group -1", ARGUMENT, () -> room.phase(-1));
        dueThrow(23, "group 4", ARGUMENT, () -> room.phase(4));
        dueThrow(23, "extreme numbers", ARGUMENT, () -> room.phase(HIGH));
        room.lay(other, 0, 4, 0, false);
        due(23, "row 8 by 2", 0, room.phase(0));
        due(23, "each group has its own", 1, room.phase(3));
        room.lay(shape, 0, 9, 0, false);
        room.takeOff(0);
        due(23, "another piece of the group", 1, room.phase(3));
        room.takeOff(2);
        dueThrow(23, "the last one is taken off", STATE, () -> room.phase(3));
        room.clear();
        room.setCloth(12, false, 6);
        room.lay(shape, 0, 59, 0, false);
        due(23, "row 59 by 6", 5, room.phase(3));
        room.clear();
        for (int stripes = 0; stripes < 2; stripes++) {
            room.setCloth(12, false, stripes);
            room.lay(shape, 0, 7, 0, false);
            dueThrow(23, "stripe number " + stripes, STATE, () -> room.phase(3));
            dueThrow(23, "the argument comes first", ARGUMENT, () -> room.phase(4));
            room.clear();
        }
    }

    private static void promise24() {
        CuttingRoom room = new CuttingRoom();
        for (int i = 0; i < 4; i++) {
            due(24, "the number", i, room.addStyle());
            due(24, "no parts", 0, room.piecesFor(i));
        }
        dueThrow(24, "a fifth", STATE, () -> room.addStyle());
        dueThrow(24, "no fifth", INDEX, () -> room.piecesFor(4));
    }

    private static void promise25() {
        CuttingRoom room = new CuttingRoom();
        int single = shape(room, 'n', false, "00");
        int paired = shape(room, 'n', true, "00");
        room.addStyle();
        room.addStyle();
        due(25, "a single shape", 4, room.addPart(0, single, 4));
        due(25, "and a paired one", 6, room.addPart(0, paired, 1));
        due(25, "another style", 8, room.addPart(1, paired, 4));
        dueThrow(25, "style 2", INDEX, () -> room.addPart(2, single, 1));
        dueThrow(25, "style -1", INDEX, () -> room.addPart(-1, single, 1));
        dueThrow(25, "shape 2", INDEX, () -> room.addPart(1, 2, 0));
        dueThrow(25, "shape -1", INDEX, () -> room.addPart(1, -1, 1));
        dueThrow(25, "extreme numbers", INDEX, () -> room.addPart(HIGH, LOW, 1));
        dueThrow(25, "count 0", ARGUMENT, () -> room.addPart(1, single, 0));
        dueThrow(25, "count 5", ARGUMENT, () -> room.addPart(0, single, 5));
        dueThrow(25, "extreme numbers", ARGUMENT, () -> room.addPart(0, single, LOW));
        dueThrow(25, "a shape twice", UNSUPPORTED, () -> room.addPart(0, single, 1));
        due(25, "nothing has changed", 6, room.piecesFor(0));
        room.lay(paired, 0, 0, 0, false);
        room.lay(paired, 0, 0, 1, true);
        room.addCloth(4);
        room.spread(4);
        room.make(1, 1);
        dueThrow(25, "a garment was made", UNSUPPORTED, () -> room.addPart(1, single, 1));
        int third = room.addShape('q', false);
        due(25, "no garment of this style was made", 8, room.addPart(0, third, 2));
    }

    private static void promise26() {
        CuttingRoom room = new CuttingRoom();
        int single = room.addShape('n', false);
        int paired = room.addShape('n', true);
        room.addStyle();
        due(26, "no parts", 0, room.piecesFor(0));
        room.addPart(0, single, 3);
        due(26, "three", 3, room.piecesFor(0));
        room.addPart(0, paired, 3);
        due(26, "three and three pairs", 9, room.piecesFor(0));
        room.fold(true);
        due(26, "folded or not", 9, room.piecesFor(0));
        dueThrow(26, "style 1", INDEX, () -> room.piecesFor(1));
        dueThrow(26, "style -1", INDEX, () -> room.piecesFor(-1));
        dueThrow(26, "extreme numbers", INDEX, () -> room.piecesFor(HIGH));
    }

    private static void dueNested(String what, int want, CuttingRoom room, int style) {
        due(27, what, want, room.nestedLength(style));
        due(28, what, want, room.nestedByTrying(style));
    }

    private static void dueNestedThrow(String what, Class<? extends RuntimeException> want, CuttingRoom room,
            int style) {
        dueThrow(27, what, want, () -> room.nestedLength(style));
        dueThrow(28, what, want, () -> room.nestedByTrying(style));
    }

    private static void promises27And28() {
        CuttingRoom room = new CuttingRoom();
        room.setCloth(4, false, 0);
        int corner = shape(room, 'q', false, "00 10 11");
        int bar = shape(room, 'n', true, "00 01 02");
        room.addStyle();
        room.addStyle();
        dueNestedThrow("no parts", UNSUPPORTED, room, 0);
        room.addPart(0, corner, 2);
        dueNested("two corners make a block", 2, room, 0);
        room.addPart(0, bar, 1);
        dueNested("with a plain and a mirrored bar, they fill three rows", 3, room, 0);
        room.addPart(1, bar, 2);
        dueNested("two pairs", 4, room, 1);
        room.addStyle();
        room.addPart(2, bar, 2);
        room.addPart(2, corner, 1);
        dueNestedThrow("five pieces", UNSUPPORTED, room, 2);
        dueNestedThrow("style 3", INDEX, room, 3);
        dueNestedThrow("style -1", INDEX, room, -1);
        dueNestedThrow("extreme numbers", INDEX, room, LOW);
        room.lay(bar, 0, 0, 0, false);
        room.lay(bar, 0, 10, 0, false);
        dueNested("the pieces of the marker do not count", 3, room, 0);
        due(27, "the marker is unchanged", 2, room.inMarker());
        due(27, "the marker is unchanged", 11, room.length());
        due(27, "the marker is unchanged", 1, room.pieceAt(10, 2));
        due(27, "the numbers are unchanged", 2, room.lay(bar, 0, 20, 0, false));
        room.addFlaw(0, 3);
        room.addFlaw(1, 0);
        room.addFlaw(2, 0);
        room.addFlaw(3, 0);
        dueNested("flaws count", 4, room, 1);
        room.addFlaw(2, 3);
        dueNested("flaws count", 5, room, 1);
        room.addFlaw(3, 3);
        dueNested("flaws count", 6, room, 1);
    }

    private static void promises27And28Folded() {
        CuttingRoom room = new CuttingRoom();
        room.setCloth(6, false, 0);
        int paired = shape(room, 'n', true, "00 01");
        int single = shape(room, 'n', false, "00 01 02");
        room.addStyle();
        room.addStyle();
        room.addStyle();
        room.addPart(0, paired, 4);
        room.addPart(1, single, 3);
        room.addPart(2, paired, 3);
        room.addPart(2, single, 4);
        dueNestedThrow("8 pieces on open cloth", UNSUPPORTED, room, 0);
        dueNested("three pieces", 2, room, 1);
        room.fold(true);
        dueNested("one plain piece for each pair", 4, room, 0);
        dueNested("half of three, rounded up", 2, room, 1);
        dueNestedThrow("three and two", UNSUPPORTED, room, 2);
        room.addStyle();
        room.addPart(3, paired, 2);
        room.addPart(3, single, 4);
        dueNested("two and two", 4, room, 3);
        room.addFlaw(0, 5);
        dueNested("a flaw on the other side", 3, room, 1);
    }

    /** The best order is neither the first nor the last here, and it is the order that makes the difference. */
    private static void promises27And28Orders() {
        CuttingRoom room = new CuttingRoom();
        room.setCloth(5, false, 0);
        int small = shape(room, 'n', false, "00 01");
        int large = shape(room, 'n', false, "00 01 02 10 11 12");
        int wide = shape(room, 'n', false, "00 01 02 03");
        room.addStyle();
        room.addPart(0, small, 2);
        room.addPart(0, large, 1);
        room.addPart(0, wide, 1);
        dueNested("the large one first", 3, room, 0);
        CuttingRoom striped = new CuttingRoom();
        striped.setCloth(3, false, 6);
        int first = shape(striped, 'n', false, "00 01 02");
        int second = shape(striped, 'n', false, "00 01 02");
        striped.setMark(first, 0, 1, 0);
        striped.setMark(second, 0, 0, 0);
        striped.addStyle();
        striped.addPart(0, first, 1);
        striped.addPart(0, second, 1);
        dueNested("the first one first", 2, striped, 0);
        CuttingRoom other = new CuttingRoom();
        other.setCloth(3, false, 6);
        first = shape(other, 'n', false, "00 01 02");
        second = shape(other, 'n', false, "00 01 02");
        other.setMark(first, 0, 0, 0);
        other.setMark(second, 0, 1, 0);
        other.addStyle();
        other.addPart(0, first, 1);
        other.addPart(0, second, 1);
        dueNested("the second one first", 2, other, 0);
    }

    private static void promises27And28Impossible() {
        CuttingRoom room = new CuttingRoom();
        room.setCloth(2, false, 0);
        int wide = shape(room, 'n', false, "00 01 02");
        int empty = room.addShape('q', false);
        int cell = shape(room, 'q', false, "00");
        room.addStyle();
        room.addPart(0, wide, 1);
        dueNestedThrow("too wide", STATE, room, 0);
        room.addStyle();
        room.addPart(1, cell, 1);
        dueNested("a cell", 1, room, 1);
        room.addPart(1, empty, 1);
        dueNestedThrow("a shape without cells", STATE, room, 1);
        room.addPart(1, wide, 4);
        dueNestedThrow("too many pieces", UNSUPPORTED, room, 1);
        CuttingRoom late = new CuttingRoom();
        late.setCloth(2, false, 6);
        int tall = shape(late, 'n', false, "00 40 01 41");
        late.addStyle();
        late.addPart(0, tall, 4);
        for (int row = 0; row < 12; row++) {
            late.addFlaw(5 * row + 2, 0);
        }
        dueNested("in the rows 0, 1, 6 and 9", 14, late, 0);
        late.clearFlaws();
        for (int row = 0; row < 12; row++) {
            late.addFlaw(row, row % 2);
        }
        dueNested("below the flaws", 20, late, 0);
        late.clearFlaws();
        int high = shape(late, 'n', false, "00 01 10 11 20 21 30 31 40 41");
        late.addStyle();
        late.addPart(1, high, 1);
        for (int row = 4; row < 55; row += 5) {
            late.addFlaw(row, 0);
        }
        dueNested("in the last five rows", 60, late, 1);
        late.addFlaw(56, 0);
        dueNestedThrow("nowhere", STATE, late, 1);
    }

    private static void promises29And30() {
        CuttingRoom room = new CuttingRoom();
        due(30, "at first", 0, room.roll());
        due(29, "one row", 1, room.addCloth(1));
        due(29, "and 9999", 10000, room.addCloth(9999));
        due(30, "both", 10000, room.roll());
        dueThrow(29, "no row", ARGUMENT, () -> room.addCloth(0));
        dueThrow(29, "-1", ARGUMENT, () -> room.addCloth(-1));
        dueThrow(29, "10000", ARGUMENT, () -> room.addCloth(10000));
        dueThrow(29, "extreme numbers", ARGUMENT, () -> room.addCloth(LOW));
        dueThrow(29, "extreme numbers", ARGUMENT, () -> room.addCloth(HIGH));
        for (int i = 0; i < 99; i++) {
            room.addCloth(9999);
        }
        due(30, "nearly full", 999901, room.roll());
        dueThrow(29, "one row too much", ARGUMENT, () -> room.addCloth(99));
        due(29, "full", 999999, room.addCloth(98));
        dueThrow(29, "one row too much", ARGUMENT, () -> room.addCloth(1));
        due(30, "full", 999999, room.roll());
    }

    private static void promise31() {
        CuttingRoom room = new CuttingRoom();
        int single = shape(room, 'n', false, "00 10 20");
        int paired = shape(room, 'n', true, "00");
        dueThrow(31, "an empty marker", UNSUPPORTED, () -> room.spread(1));
        dueThrow(31, "no plies", ARGUMENT, () -> room.spread(0));
        room.nest(single, false);
        room.nest(paired, true);
        room.nest(paired, true);
        dueThrow(31, "no cloth", STATE, () -> room.spread(1));
        dueThrow(31, "51 plies", ARGUMENT, () -> room.spread(51));
        dueThrow(31, "extreme numbers", ARGUMENT, () -> room.spread(LOW));
        dueThrow(31, "extreme numbers", ARGUMENT, () -> room.spread(HIGH));
        room.addCloth(149);
        dueThrow(31, "one row too few", STATE, () -> room.spread(50));
        due(31, "nothing is cut", 0, room.pieces(single, false));
        due(31, "49 plies", 2, room.spread(49));
        due(31, "single ones", 49, room.pieces(single, false));
        due(31, "no plain ones", 0, room.pieces(paired, false));
        due(31, "mirrored ones", 98, room.pieces(paired, true));
        due(31, "the marker stays", 3, room.inMarker());
        room.clear();
        dueThrow(31, "an empty marker comes before the roll", UNSUPPORTED, () -> room.spread(50));
        room.fold(true);
        room.nest(single, false);
        room.nest(paired, false);
        room.addCloth(4);
        due(31, "a ply of folded cloth takes twice as much", 0, room.spread(1));
        due(31, "two single ones", 51, room.pieces(single, false));
        due(31, "a plain one", 1, room.pieces(paired, false));
        due(31, "and a mirrored one", 99, room.pieces(paired, true));
        dueThrow(31, "no cloth is left", STATE, () -> room.spread(1));
    }

    private static void promise31Stock() {
        CuttingRoom room = new CuttingRoom();
        int single = shape(room, 'n', false, "00");
        int paired = shape(room, 'n', true, "00");
        room.addCloth(9999);
        for (int i = 0; i < 39; i++) {
            room.nest(single, false);
        }
        room.nest(paired, true);
        for (int i = 0; i < 5; i++) {
            room.spread(50);
        }
        due(31, "the stock", 9750, room.pieces(single, false));
        dueThrow(31, "7 plies are too much", STATE, () -> room.spread(7));
        due(31, "nothing has changed", 250, room.pieces(paired, true));
        room.spread(6);
        due(31, "the stock", 9984, room.pieces(single, false));
        room.clear();
        for (int i = 0; i < 15; i++) {
            room.nest(single, false);
        }
        int before = room.roll();
        due(31, "9999 are not too much", before - 2, room.spread(1));
        due(31, "the stock", 9999, room.pieces(single, false));
        dueThrow(31, "the stock is full", STATE, () -> room.spread(1));
        room.clear();
        room.nest(single, false);
        dueThrow(31, "one piece is too much", STATE, () -> room.spread(1));
        room.clear();
        room.nest(paired, true);
        due(31, "the other shape is not full", before - 3, room.spread(1));
        room.clear();
        for (int i = 0; i < 39; i++) {
            room.nest(paired, true);
        }
        room.nest(paired, false);
        for (int i = 0; i < 4; i++) {
            room.spread(50);
        }
        due(31, "mirrored ones", 256 + 1 + 7800, room.pieces(paired, true));
        room.spread(49);
        due(31, "plain and mirrored ones are limited apart", 9968, room.pieces(paired, true));
        dueThrow(31, "mirrored ones are limited, too", STATE, () -> room.spread(1));
        due(31, "plain ones", 249, room.pieces(paired, false));
        room.clear();
        for (int i = 0; i < 31; i++) {
            room.nest(paired, true);
        }
        room.spread(1);
        due(31, "9999 mirrored ones are not too much", 9999, room.pieces(paired, true));
        room.clear();
        room.nest(paired, true);
        dueThrow(31, "one mirrored piece is too much", STATE, () -> room.spread(1));
        room.clear();
        room.fold(true);
        room.nest(paired, false);
        dueThrow(31, "on folded cloth, a pair has a mirrored piece", STATE, () -> room.spread(1));
    }

    private static void promise32() {
        CuttingRoom room = new CuttingRoom();
        int single = shape(room, 'n', false, "00");
        int paired = shape(room, 'n', true, "00");
        due(32, "none at first", 0, room.pieces(single, false));
        due(32, "none at first", 0, room.pieces(paired, true));
        dueThrow(32, "mirrored ones of a single shape", UNSUPPORTED, () -> room.pieces(single, true));
        dueThrow(32, "shape 2", INDEX, () -> room.pieces(2, true));
        dueThrow(32, "shape -1", INDEX, () -> room.pieces(-1, false));
        dueThrow(32, "extreme numbers", INDEX, () -> room.pieces(HIGH, false));
        room.nest(single, false);
        room.nest(paired, false);
        room.nest(paired, false);
        room.nest(paired, true);
        room.addCloth(3);
        room.spread(3);
        due(32, "single ones", 3, room.pieces(single, false));
        due(32, "plain ones", 6, room.pieces(paired, false));
        due(32, "mirrored ones", 3, room.pieces(paired, true));
        room.addStyle();
        room.addPart(0, paired, 2);
        room.make(0, 1);
        due(32, "a garment takes plain ones", 4, room.pieces(paired, false));
        due(32, "and mirrored ones", 1, room.pieces(paired, true));
        due(32, "and no others", 3, room.pieces(single, false));
    }

    private static void dueCanMake(String what, int want, CuttingRoom room, int style) {
        due(33, what, want, room.canMake(style));
        due(34, what, want, room.canMakeByTaking(style));
    }

    private static void promises33And34() {
        CuttingRoom room = new CuttingRoom();
        int single = shape(room, 'n', false, "00");
        int paired = shape(room, 'n', true, "00");
        room.addStyle();
        room.addStyle();
        for (int style : new int[] {2, -1, LOW, HIGH}) {
            dueThrow(33, "style " + style, INDEX, () -> room.canMake(style));
            dueThrow(34, "style " + style, INDEX, () -> room.canMakeByTaking(style));
        }
        dueThrow(33, "no parts", UNSUPPORTED, () -> room.canMake(0));
        dueThrow(34, "no parts", UNSUPPORTED, () -> room.canMakeByTaking(0));
        room.addPart(0, single, 2);
        room.addPart(1, single, 3);
        room.addPart(1, paired, 1);
        dueCanMake("without stock", 0, room, 0);
        room.nest(single, false);
        room.nest(paired, false);
        room.nest(paired, true);
        room.nest(paired, true);
        room.addCloth(100);
        room.spread(11);
        dueCanMake("11 by 2", 5, room, 0);
        dueCanMake("11 by 3", 3, room, 1);
        room.clear();
        room.nest(single, false);
        room.spread(49);
        dueCanMake("60 by 2", 30, room, 0);
        dueCanMake("11 pairs", 11, room, 1);
        room.clear();
        room.nest(paired, false);
        room.spread(20);
        dueCanMake("31 plain and 22 mirrored ones, 60 by 3", 20, room, 1);
        due(33, "the stock is unchanged", 60, room.pieces(single, false));
        due(34, "the stock is unchanged", 31, room.pieces(paired, false));
    }

    private static void promises35And36() {
        CuttingRoom room = new CuttingRoom();
        int single = shape(room, 'n', false, "00");
        int paired = shape(room, 'n', true, "00");
        room.addStyle();
        dueThrow(35, "no parts", UNSUPPORTED, () -> room.make(0, 1));
        dueThrow(35, "the argument comes first", ARGUMENT, () -> room.make(0, 0));
        dueThrow(35, "style 1", INDEX, () -> room.make(1, 0));
        dueThrow(35, "style -1", INDEX, () -> room.make(-1, 1));
        dueThrow(36, "style 1", INDEX, () -> room.made(1));
        dueThrow(36, "style -1", INDEX, () -> room.made(-1));
        dueThrow(36, "extreme numbers", INDEX, () -> room.made(HIGH));
        room.addPart(0, single, 1);
        room.addPart(0, paired, 2);
        due(36, "none", 0, room.made(0));
        dueThrow(35, "no pieces", STATE, () -> room.make(0, 1));
        room.nest(single, false);
        for (int i = 0; i < 3; i++) {
            room.nest(paired, false);
            room.nest(paired, true);
        }
        room.addCloth(300);
        room.spread(50);
        dueThrow(35, "one too much", STATE, () -> room.make(0, 51));
        due(36, "none", 0, room.made(0));
        due(35, "made", 30, room.make(0, 30));
        due(35, "single ones are taken", 20, room.pieces(single, false));
        due(35, "plain ones are taken", 90, room.pieces(paired, false));
        due(35, "mirrored ones are taken", 90, room.pieces(paired, true));
        due(35, "made so far", 50, room.make(0, 20));
        due(36, "made", 50, room.made(0));
        dueThrow(35, "no single ones are left", STATE, () -> room.make(0, 1));
        dueThrow(35, "100 garments", ARGUMENT, () -> room.make(0, 100));
        dueThrow(35, "-1 garments", ARGUMENT, () -> room.make(0, -1));
        dueThrow(35, "extreme numbers", ARGUMENT, () -> room.make(0, LOW));
        room.spread(50);
        room.spread(50);
        due(35, "99 garments", 149, room.make(0, 99));
        room.addStyle();
        due(36, "each style has its own", 0, room.made(1));
        room.addPart(1, paired, 1);
        due(35, "another style", 2, room.make(1, 2));
        due(35, "what is left", 150 * 3 - 149 * 2 - 2, room.pieces(paired, true));
    }

    private static void promise37() {
        CuttingRoom room = new CuttingRoom();
        int single = shape(room, 'n', false, "00");
        int paired = shape(room, 'n', true, "00");
        room.addStyle();
        dueThrow(37, "no parts", UNSUPPORTED, () -> room.pliesFor(0, 1));
        dueThrow(37, "the argument comes first", ARGUMENT, () -> room.pliesFor(0, 100));
        dueThrow(37, "style 1", INDEX, () -> room.pliesFor(1, 0));
        dueThrow(37, "style -1", INDEX, () -> room.pliesFor(-1, 1));
        room.addPart(0, single, 3);
        dueThrow(37, "no garments", ARGUMENT, () -> room.pliesFor(0, 0));
        dueThrow(37, "extreme numbers", ARGUMENT, () -> room.pliesFor(0, HIGH));
        dueThrow(37, "an empty marker", STATE, () -> room.pliesFor(0, 1));
        room.nest(single, false);
        room.nest(single, false);
        due(37, "3 by 2", 2, room.pliesFor(0, 1));
        due(37, "more plies than can be spread, without cloth", 149, room.pliesFor(0, 99));
        room.addPart(0, paired, 1);
        dueThrow(37, "a shape that is not in the marker", STATE, () -> room.pliesFor(0, 1));
        room.nest(paired, false);
        dueThrow(37, "no mirrored piece", STATE, () -> room.pliesFor(0, 1));
        int piece = room.nest(paired, true);
        due(37, "the pairs do not count", 5, room.pliesFor(0, 3));
        room.addCloth(100);
        room.spread(9);
        due(37, "18 are in the stock", 0, room.pliesFor(0, 6));
        due(37, "three are missing", 2, room.pliesFor(0, 7));
        room.takeOff(piece);
        due(37, "mirrored ones are in the stock", 5, room.pliesFor(0, 9));
        dueThrow(37, "but not enough", STATE, () -> room.pliesFor(0, 10));
        room.clear();
        due(37, "an empty marker, but stock", 0, room.pliesFor(0, 6));
        dueThrow(37, "an empty marker", STATE, () -> room.pliesFor(0, 7));
        room.nest(paired, true);
        room.nest(single, false);
        room.nest(single, false);
        room.nest(single, false);
        room.nest(single, false);
        dueThrow(37, "no plain piece", STATE, () -> room.pliesFor(0, 10));
        room.nest(paired, false);
        due(37, "the pairs count most", 11, room.pliesFor(0, 20));
        due(37, "nothing is cut", 91, room.roll());
    }

    private static void promise37Folded() {
        CuttingRoom room = new CuttingRoom();
        int single = shape(room, 'n', false, "00");
        int paired = shape(room, 'n', true, "00");
        room.fold(true);
        room.addStyle();
        room.addPart(0, single, 4);
        room.addPart(0, paired, 1);
        room.nest(single, false);
        dueThrow(37, "no pair", STATE, () -> room.pliesFor(0, 1));
        room.nest(paired, false);
        due(37, "two single ones in a ply", 2, room.pliesFor(0, 1));
        room.nest(single, false);
        room.nest(single, false);
        due(37, "a pair in a ply", 7, room.pliesFor(0, 7));
        due(37, "six single ones in a ply", 4, room.pliesFor(0, 4));
    }

    private static void promise38() {
        CuttingRoom room = new CuttingRoom();
        int single = shape(room, 'n', false, "00");
        int paired = shape(room, 'n', true, "00");
        due(38, "none at first", 0L, room.cut());
        room.nest(single, false);
        room.nest(paired, true);
        room.addCloth(9999);
        room.spread(50);
        due(38, "two by 50", 100L, room.cut());
        room.clear();
        room.fold(true);
        room.nest(single, false);
        room.nest(paired, false);
        room.spread(3);
        due(38, "four by 3", 112L, room.cut());
        room.addStyle();
        room.addPart(0, single, 1);
        room.make(0, 10);
        due(38, "garments do not count", 112L, room.cut());
        dueThrow(38, "nothing is cut", ARGUMENT, () -> room.spread(99));
        due(38, "nothing was cut", 112L, room.cut());
    }

    private static void promises39And40() {
        CuttingRoom room = new CuttingRoom();
        room.setCloth(7, false, 0);
        dueThrow(39, "an empty marker", ARITHMETIC, () -> room.density());
        dueThrow(40, "an empty marker", ARITHMETIC, () -> room.meanCells());
        int three = shape(room, 'n', false, "00 10 11");
        int one = shape(room, 'n', false, "00");
        room.nest(three, false);
        due(39, "3 by 14", 3f / 14f, room.density());
        due(40, "3", 3.0, room.meanCells());
        room.nest(one, false);
        room.nest(one, false);
        due(39, "5 by 14", 5f / 14f, room.density());
        due(40, "5 by 3", 5.0 / 3.0, room.meanCells());
        room.clear();
        room.fold(true);
        room.nest(three, false);
        due(39, "3 by 6, half of 7 is 3", 0.5f, room.density());
        room.nest(one, false);
        due(39, "4 by 6", 4f / 6f, room.density());
        due(40, "2", 2.0, room.meanCells());
        room.takeOff(0);
        room.takeOff(1);
        dueThrow(39, "empty again", ARITHMETIC, () -> room.density());
        dueThrow(40, "empty again", ARITHMETIC, () -> room.meanCells());
        room.setCloth(2, false, 0);
        room.nest(one, false);
        due(39, "one column", 1f, room.density());
    }

    /** It must hold in every state; that it could be false, no call of the face can show. */
    private static void promise41() {
        CuttingRoom room = new CuttingRoom();
        due(41, "a new room", true, room.isSound());
        int single = shape(room, 'q', false, "00 10 11");
        int paired = shape(room, 'q', true, "00 10 11");
        due(41, "with shapes", true, room.isSound());
        for (int i = 0; i < 10; i++) {
            room.nest(single, false);
            room.nest(paired, i % 2 == 0);
            due(41, "with pieces", true, room.isSound());
        }
        room.takeOff(3);
        room.takeOff(19);
        room.nest(paired, true);
        due(41, "with other pieces", true, room.isSound());
        room.addCloth(9999);
        room.spread(50);
        due(41, "cut", true, room.isSound());
        room.addStyle();
        room.addStyle();
        room.addPart(0, paired, 2);
        room.addPart(1, paired, 1);
        room.addPart(1, single, 3);
        due(41, "with styles", true, room.isSound());
        room.make(0, 60);
        room.make(1, 20);
        due(41, "with garments", true, room.isSound());
        room.clear();
        room.fold(true);
        room.nest(single, false);
        room.nest(paired, false);
        room.spread(7);
        due(41, "cut folded", true, room.isSound());
        room.make(1, 3);
        room.clear();
        due(41, "cleared", true, room.isSound());
    }

    /** Behind the 512th call the answers are free, but the machine still must not throw, nor a call fail to end. */
    private static void longUse() {
        CuttingRoom room = new CuttingRoom();
        int shape = shape(room, 'q', true, "00 10 11");
        room.addStyle();
        room.addPart(0, shape, 2);
        for (int i = 0; i < 3000; i++) {
            boolean isMirrored = i % 2 == 0;
            int oldest = i - 5;
            endsAsDeclared(() -> room.nest(shape, isMirrored));
            endsAsDeclared(() -> room.takeOff(oldest));
            endsAsDeclared(() -> room.addCloth(9999));
            endsAsDeclared(() -> room.spread(50));
            endsAsDeclared(() -> room.make(0, 20));
        }
        endsAsDeclared(() -> room.nestedLength(0));
        endsAsDeclared(() -> room.nestedByTrying(0));
        endsAsDeclared(() -> room.isSound());
    }

    private static void endsAsDeclared(Check.Call call) {
        String outcome = Rooms.outcome(call);
        boolean isOfTheMachine = outcome.startsWith("throws.")
                && !outcome.matches("throws.(IllegalState|IllegalArgument|NoSuchElement)Exception");
        CHECK.due("long use, " + outcome + " of the machine", false, isOfTheMachine);
    }
}
