/** The boundary cases of 'Laying', of the reasons and of the promises 10 to 12. */
public final class LayingBoundaryTest {
    private static final Check CHECK = new Check("LayingBoundaryTest");

    private LayingBoundaryTest() {
    }

    public static void main(String[] args) {
        shapesThatAreThere();
        turnsFrom0To3();
        turnsOfEachRule();
        cellsOfEachTurnAndSort();
        mirroredOnes();
        firstReasonCounts();
        firstReasonCountsWithStripes();
        placesAtTheEdges();
        placesOutside();
        touchingIsNoOverlap();
        reasonsAsToFlaws();
        stripesOfAGroup();
        fortyPieces();
        fortyNestedPieces();
        leastPlaces();
        leastTurns();
        nestedAsPlainOrMirroredAsAsked();
        nowhere();
        theLastPlace();
        CHECK.end();
    }

    /** "if there is no such shape": lay, reason and nest. */
    private static void shapesThatAreThere() {
        CuttingRoom room = new CuttingRoom();
        noShapesBut(room, 0);
        Rooms.shape(room, 'n', false, "00");
        noShapesBut(room, 1);
        for (int i = 1; i < 8; i++) {
            Rooms.shape(room, 'n', false, "00");
        }
        noShapesBut(room, 8);
        CHECK.due("the last shape", '-', room.reason(7, 0, 0, 0, false));
        CHECK.due("the last shape", 0, room.lay(7, 0, 0, 0, false));
        CHECK.due("the last shape", 1, room.nest(7, false));
    }

    private static void noShapesBut(CuttingRoom room, int shapes) {
        for (int shape : new int[] {-1, shapes, 8, 9, Rooms.LOW, Rooms.HIGH, 256, -256, 1 << 16, 1 << 31}) {
            CHECK.dueThrow("lay " + shape, Rooms.INDEX, () -> room.lay(shape, 0, 0, 0, false));
            CHECK.dueThrow("reason " + shape, Rooms.INDEX, () -> room.reason(shape, 0, 0, 0, false));
            CHECK.dueThrow("nest " + shape, Rooms.INDEX, () -> room.nest(shape, false));
        }
        CHECK.due("nothing is laid", 0, room.inMarker());
    }

    /** "the number of quarter turns, 0 to 3". */
    private static void turnsFrom0To3() {
        CuttingRoom room = new CuttingRoom();
        int shape = Rooms.shape(room, 'q', true, "00 01 02 10");
        CHECK.dueThrowEach("lay, turns", Rooms.outside(0, 3), Rooms.ARGUMENT,
                turns -> room.lay(shape, turns, 0, 0, false));
        CHECK.dueThrowEach("lay, mirrored, turns", Rooms.outside(0, 3), Rooms.ARGUMENT,
                turns -> room.lay(shape, turns, 0, 0, true));
        CHECK.dueThrowEach("reason, turns", Rooms.outside(0, 3), Rooms.ARGUMENT,
                turns -> room.reason(shape, turns, 0, 0, false));
        CHECK.dueThrowEach("reason, mirrored, turns", Rooms.outside(0, 3), Rooms.ARGUMENT,
                turns -> room.reason(shape, turns, 0, 0, true));
        CHECK.due("nothing is laid", 0, room.inMarker());
        for (int turns = 0; turns < 4; turns++) {
            CHECK.due("turns " + turns, turns, room.lay(shape, turns, 10 * turns, 0, false));
            CHECK.due("turns " + turns, turns, room.turnsOf(turns));
            CHECK.due("the length, turns " + turns, 10 * turns + (turns % 2 == 0 ? 2 : 3), room.length());
        }
    }

    /** "'n' if it must be laid as it is drawn, 'h' .. a half, too, 'q' .. quarters"; "on cloth with a nap ..". */
    private static void turnsOfEachRule() {
        for (int pairs = 0; pairs < 2; pairs++) {
            CuttingRoom room = new CuttingRoom();
            String[] dueAnswers = {"-ttt", "-t-t", "----"};
            for (int i = 0; i < 3; i++) {
                int shape = Rooms.shape(room, "nhq".charAt(i), pairs == 1, "22");
                turnsOf(room, shape, pairs == 1, dueAnswers[i]);
                room.setCloth(12, true, 0);
                turnsOf(room, shape, pairs == 1, "-ttt");
                room.setCloth(12, false, 0);
            }
        }
    }

    private static void turnsOf(CuttingRoom room, int shape, boolean isPaired, String due) {
        for (int turns = 0; turns < 4; turns++) {
            String what = "shape " + shape + ", turns " + turns;
            CHECK.due(what, due.charAt(turns), room.reason(shape, turns, 0, 0, false));
            char mirrored = due.charAt(turns) == '-' && !isPaired ? 'm' : due.charAt(turns);
            CHECK.due(what + ", mirrored", mirrored, room.reason(shape, turns, 0, 0, true));
        }
    }

    /** "Its cells are found from those of the shape like this", while the shape is drawn cell by cell. */
    private static void cellsOfEachTurnAndSort() {
        String drawn = "22 13 31 03 44 40 00 ";
        for (int cells = 1; 3 * cells <= drawn.length(); cells++) {
            CuttingRoom room = new CuttingRoom();
            int shape = Rooms.shape(room, 'q', true, drawn.substring(0, 3 * cells));
            for (int turns = 0; turns < 4; turns++) {
                dueCells(room, shape, drawn.substring(0, 3 * cells), turns, false);
                dueCells(room, shape, drawn.substring(0, 3 * cells), turns, true);
            }
        }
    }

    private static void dueCells(CuttingRoom room, int shape, String drawn, int turns, boolean isMirrored) {
        boolean[] due = cellsAsTold(drawn, turns, isMirrored);
        room.clear();
        room.lay(shape, turns, 10, 3, isMirrored);
        for (int i = 0; i < 25; i++) {
            int place = i;
            CHECK.due(drawn + "turns " + turns + (isMirrored ? ", mirrored" : "") + ", cell " + i / 5 + i % 5,
                    due[i] ? "0" : "throws.IllegalStateException",
                    Rooms.outcome(() -> room.pieceAt(10 + place / 5, 3 + place % 5)));
        }
    }

    /** Mirrors, turns and moves the cells as the document says, each one by itself. */
    private static boolean[] cellsAsTold(String drawn, int turns, boolean isMirrored) {
        int count = drawn.length() / 3;
        int[] rows = new int[count];
        int[] columns = new int[count];
        int leastRow = 4;
        int leastColumn = 4;
        for (int i = 0; i < count; i++) {
            rows[i] = drawn.charAt(3 * i) - '0';
            columns[i] = drawn.charAt(3 * i + 1) - '0';
            if (isMirrored) {
                columns[i] = 4 - columns[i];
            }
            for (int turn = 0; turn < turns; turn++) {
                int row = rows[i];
                rows[i] = columns[i];
                columns[i] = 4 - row;
            }
            leastRow = Math.min(leastRow, rows[i]);
            leastColumn = Math.min(leastColumn, columns[i]);
        }
        boolean[] result = new boolean[25];
        for (int i = 0; i < count; i++) {
            result[(rows[i] - leastRow) * 5 + columns[i] - leastColumn] = true;
        }
        return result;
    }

    /** "'m' it is mirrored, and its shape is single or the cloth is folded". */
    private static void mirroredOnes() {
        CuttingRoom room = new CuttingRoom();
        int single = Rooms.shape(room, 'n', false, "00");
        int paired = Rooms.shape(room, 'n', true, "00");
        String[] dueAnswers = {"-m--", "-m-m"};
        for (int folds = 0; folds < 2; folds++) {
            room.fold(folds == 1);
            CHECK.due("single, plain, fold " + folds, dueAnswers[folds].charAt(0),
                    room.reason(single, 0, 0, 0, false));
            CHECK.due("single, mirrored, fold " + folds, dueAnswers[folds].charAt(1),
                    room.reason(single, 0, 0, 0, true));
            CHECK.due("paired, plain, fold " + folds, dueAnswers[folds].charAt(2),
                    room.reason(paired, 0, 0, 0, false));
            CHECK.due("paired, mirrored, fold " + folds, dueAnswers[folds].charAt(3),
                    room.reason(paired, 0, 0, 0, true));
        }
        CHECK.dueThrow("lay a mirrored one", Rooms.UNSUPPORTED, () -> room.lay(paired, 0, 0, 0, true));
        CHECK.dueThrow("nest a mirrored one", Rooms.ELEMENT, () -> room.nest(paired, true));
    }

    /** "the first of these that applies", each reason with each later one that can apply, too. */
    private static void firstReasonCounts() {
        CuttingRoom room = new CuttingRoom();
        room.setCloth(8, false, 0);
        int empty = room.addShape('n', false);
        int single = Rooms.shape(room, 'n', false, "00 01");
        CHECK.due("'e' alone", 'e', room.reason(empty, 0, 0, 0, false));
        CHECK.due("'e' before 't'", 'e', room.reason(empty, 1, 0, 0, false));
        CHECK.due("'e' before 'm'", 'e', room.reason(empty, 0, 0, 0, true));
        CHECK.due("'e' before 'o'", 'e', room.reason(empty, 0, -1, 0, false));
        CHECK.due("'e' before all", 'e', room.reason(empty, 3, 60, 8, true));
        room.lay(single, 0, 0, 0, false);
        room.addFlaw(0, 2);
        CHECK.due("'t' alone", 't', room.reason(single, 1, 5, 0, false));
        CHECK.due("'t' before 'm'", 't', room.reason(single, 1, 5, 0, true));
        CHECK.due("'t' before 'o'", 't', room.reason(single, 1, 60, 0, false));
        CHECK.due("'t' before 'f'", 't', room.reason(single, 2, 0, 2, false));
        CHECK.due("'t' before 'p'", 't', room.reason(single, 2, 0, 0, false));
        CHECK.due("'m' alone", 'm', room.reason(single, 0, 5, 0, true));
        CHECK.due("'m' before 'o'", 'm', room.reason(single, 0, 5, 7, true));
        CHECK.due("'m' before 'f'", 'm', room.reason(single, 0, 0, 2, true));
        CHECK.due("'m' before 'p'", 'm', room.reason(single, 0, 0, 0, true));
        int hollow = Rooms.shape(room, 'n', false, "00 04");
        CHECK.due("'o' alone", 'o', room.reason(hollow, 0, 0, 4, false));
        CHECK.due("'o' before 'f'", 'o', room.reason(hollow, 0, 0, -2, false));
        room.addFlaw(9, 5);
        CHECK.due("'o' before 'f', behind the last column", 'o', room.reason(hollow, 0, 9, 5, false));
        room.lay(single, 0, 9, 6, false);
        CHECK.due("'o' before 'p'", 'o', room.reason(hollow, 0, 9, 7, false));
        CHECK.due("'f' alone", 'f', room.reason(single, 0, 0, 2, false));
        CHECK.due("'f' before 'p'", 'f', room.reason(single, 0, 0, 1, false));
        CHECK.due("'f' before 'p', the other way round", 'f', room.reason(single, 0, 9, 5, false));
        CHECK.due("'p' alone", 'p', room.reason(single, 0, 9, 6, false));
        CHECK.due("none", '-', room.reason(single, 0, 0, 3, false));
    }

    private static void firstReasonCountsWithStripes() {
        CuttingRoom room = new CuttingRoom();
        room.setCloth(4, false, 2);
        int cell = Rooms.shape(room, 'h', false, "00");
        room.setMark(cell, 0, 0, 0);
        room.lay(cell, 0, 2, 0, false);
        int bar = Rooms.shape(room, 'h', false, "00 10");
        room.setMark(bar, 0, 0, 0);
        room.addFlaw(5, 0);
        CHECK.due("'s' alone", 's', room.reason(bar, 0, 3, 1, false));
        CHECK.due("'t' before 's'", 't', room.reason(bar, 1, 3, 0, false));
        CHECK.due("'m' before 's'", 'm', room.reason(bar, 0, 3, 0, true));
        CHECK.due("'o' before 's'", 'o', room.reason(bar, 0, 59, 0, false));
        CHECK.due("'o' before 's', right of the cloth", 'o', room.reason(bar, 0, 3, 4, false));
        CHECK.due("'f' before 's'", 'f', room.reason(bar, 0, 5, 0, false));
        CHECK.due("'p' before 's'", 'p', room.reason(bar, 0, 1, 0, false));
        CHECK.due("none", '-', room.reason(bar, 0, 6, 0, false));
        CHECK.due("turned by a half, the mark is in the lower row", 's', room.reason(bar, 2, 6, 0, false));
        CHECK.due("turned by a half, the mark is in the lower row", '-', room.reason(bar, 2, 7, 0, false));
    }

    /** "'o' one of its cells is not on a row and a column on which pieces are laid", for each turn. */
    private static void placesAtTheEdges() {
        CuttingRoom room = new CuttingRoom();
        room.setCloth(9, false, 0);
        int shape = Rooms.shape(room, 'q', true, "11 21 31 32");
        for (int folds = 0; folds < 2; folds++) {
            room.fold(folds == 1);
            int columns = folds == 1 ? 4 : 9;
            for (int turns = 0; turns < 4; turns++) {
                int height = turns % 2 == 0 ? 3 : 2;
                int width = 5 - height;
                String what = "turns " + turns + ", fold " + folds;
                CHECK.due(what + ", first", '-', room.reason(shape, turns, 0, 0, false));
                CHECK.due(what + ", last", '-', room.reason(shape, turns, 60 - height, columns - width, false));
                CHECK.due(what + ", above", 'o', room.reason(shape, turns, -1, 0, false));
                CHECK.due(what + ", left", 'o', room.reason(shape, turns, 0, -1, false));
                CHECK.due(what + ", below", 'o', room.reason(shape, turns, 61 - height, 0, false));
                CHECK.due(what + ", right", 'o', room.reason(shape, turns, 0, columns - width + 1, false));
                CHECK.due(what + ", mirrored, last", folds == 1 ? 'm' : '-',
                        room.reason(shape, turns, 60 - height, columns - width, true));
                CHECK.due(what + ", mirrored, right", folds == 1 ? 'm' : 'o',
                        room.reason(shape, turns, 0, columns - width + 1, true));
                CHECK.due(what + ", mirrored, below", folds == 1 ? 'm' : 'o',
                        room.reason(shape, turns, 61 - height, 0, true));
            }
        }
    }

    /** Rows and columns of lay and reason are not limited: each number that is not on the cloth is 'o'. */
    private static void placesOutside() {
        CuttingRoom room = new CuttingRoom();
        int square = Rooms.shape(room, 'q', false, Rooms.block(5, 5));
        for (int row : Rooms.outside(0, 55)) {
            CHECK.due("row " + row, 'o', room.reason(square, 0, row, 3, false));
            CHECK.dueThrow("row " + row, Rooms.UNSUPPORTED, () -> room.lay(square, 0, row, 3, false));
            CHECK.due("row and column " + row, 'o', room.reason(square, 3, row, row, false));
        }
        for (int column : Rooms.outside(0, 7)) {
            CHECK.due("column " + column, 'o', room.reason(square, 0, 3, column, false));
            CHECK.dueThrow("column " + column, Rooms.UNSUPPORTED, () -> room.lay(square, 0, 3, column, false));
        }
        CHECK.due("nothing is laid", 0, room.inMarker());
        CHECK.due("the last place", 0, room.lay(square, 2, 55, 7, false));
    }

    /** "No two pieces overlap": they can touch, and lie in each other's gaps. */
    private static void touchingIsNoOverlap() {
        CuttingRoom room = new CuttingRoom();
        int ring = Rooms.shape(room, 'n', false, "00 01 02 10 12 20 21 22");
        int cell = Rooms.shape(room, 'n', false, "44");
        room.lay(ring, 0, 10, 4, false);
        for (int row = 9; row <= 13; row++) {
            for (int column = 3; column <= 7; column++) {
                boolean isOnRing = row > 9 && row < 13 && column > 3 && column < 7 && !(row == 11 && column == 5);
                CHECK.due("a cell at " + row + "," + column, isOnRing ? 'p' : '-',
                        room.reason(cell, 0, row, column, false));
            }
        }
        CHECK.due("in the gap", 1, room.lay(cell, 0, 11, 5, false));
        CHECK.due("the gap is taken", 'p', room.reason(cell, 0, 11, 5, false));
        CHECK.due("a ring beside the ring", '-', room.reason(ring, 0, 10, 7, false));
        CHECK.due("a ring beside the ring", '-', room.reason(ring, 0, 13, 4, false));
        CHECK.due("a ring beside the ring", '-', room.reason(ring, 0, 7, 1, false));
        CHECK.due("a ring over a corner of the ring", 'p', room.reason(ring, 0, 8, 2, false));
        room.takeOff(0);
        CHECK.due("the gap is still taken", 'p', room.reason(cell, 0, 11, 5, false));
        CHECK.due("the ring is gone", '-', room.reason(cell, 0, 11, 4, false));
        CHECK.due("a ring round the cell", '-', room.reason(ring, 0, 10, 4, false));
    }

    /** "'f' one of its cells has a flaw": its cells alone count, not the square round them. */
    private static void reasonsAsToFlaws() {
        CuttingRoom room = new CuttingRoom();
        int corners = Rooms.shape(room, 'n', false, "00 02 20 22");
        room.addFlaw(30, 6);
        for (int row = 27; row <= 31; row++) {
            for (int column = 3; column <= 7; column++) {
                boolean isHit = (row == 28 || row == 30) && (column == 4 || column == 6);
                CHECK.due("corners at " + row + "," + column, isHit ? 'f' : '-',
                        room.reason(corners, 0, row, column, false));
            }
        }
    }

    /** "the marks of all pieces of a group": not those of other groups, and none of shapes without a mark. */
    private static void stripesOfAGroup() {
        CuttingRoom room = new CuttingRoom();
        room.setCloth(12, false, 6);
        for (int group = 0; group < 4; group++) {
            int shape = Rooms.shape(room, 'n', false, "00");
            room.setMark(shape, group, 0, 0);
        }
        int unmarked = Rooms.shape(room, 'n', false, "00");
        room.setMark(unmarked, 1, 0, 0);
        room.setMark(unmarked, -1, 0, 0);
        for (int group = 0; group < 4; group++) {
            CHECK.due("each group is free, group " + group, '-', room.reason(group, 0, group + 1, group, false));
            room.lay(group, 0, group + 1, group, false);
        }
        room.lay(unmarked, 0, 0, 0, false);
        for (int group = 0; group < 4; group++) {
            CHECK.due("the remainder of group " + group, group + 1, room.phase(group));
            CHECK.due("the same remainder", '-', room.reason(group, 0, group + 7, 11, false));
            CHECK.due("the row before", 's', room.reason(group, 0, group + 6, 11, false));
            CHECK.due("the row behind", 's', room.reason(group, 0, group + 8, 11, false));
            CHECK.due("without a mark", '-', room.reason(unmarked, 0, group + 8, 11, false));
        }
        room.takeOff(3);
        CHECK.due("no piece of group 3 is left", '-', room.reason(3, 0, 20, 0, false));
        CHECK.due("group 2 is as it was", 's', room.reason(2, 0, 20, 0, false));
    }

    /** "At most 40 pieces are in the marker"; lay: "if there are 40 pieces in the marker". */
    private static void fortyPieces() {
        CuttingRoom room = new CuttingRoom();
        int cell = Rooms.shape(room, 'n', false, "00");
        for (int i = 0; i < Rooms.MARKER; i++) {
            CHECK.due("piece " + i, i, room.lay(cell, 0, i, i % 12, false));
        }
        CHECK.dueThrow("piece 40", Rooms.STATE, () -> room.lay(cell, 0, 50, 0, false));
        CHECK.due("a full marker is no reason", '-', room.reason(cell, 0, 50, 0, false));
        CHECK.due("40 pieces", 40, room.inMarker());
        room.takeOff(0);
        CHECK.due("there is room for one again", 40, room.lay(cell, 0, 50, 0, false));
        CHECK.dueThrow("and for no other", Rooms.STATE, () -> room.lay(cell, 0, 51, 0, false));
        CHECK.dueThrow("nest, too", Rooms.STATE, () -> room.nest(cell, false));
        CHECK.due("the last piece is there", 50, room.rowOf(40));
        room.clear();
        CHECK.due("numbers begin again", 0, room.lay(cell, 0, 50, 0, false));
    }

    /** nest: "if there are 40 pieces in the marker". */
    private static void fortyNestedPieces() {
        CuttingRoom room = new CuttingRoom();
        int paired = Rooms.shape(room, 'n', true, "00");
        for (int i = 0; i < Rooms.MARKER; i++) {
            CHECK.due("piece " + i, i, room.nest(paired, i % 2 == 0));
            CHECK.due("its row", i / 12, room.rowOf(i));
            CHECK.due("its column", i % 12, room.columnOf(i));
        }
        CHECK.dueThrow("piece 40", Rooms.STATE, () -> room.nest(paired, false));
        CHECK.dueThrow("piece 40, mirrored", Rooms.STATE, () -> room.nest(paired, true));
        room.takeOff(39);
        CHECK.due("there is room for one again", 40, room.nest(paired, true));
        CHECK.due("where the other one was", 3, room.columnOf(40));
        CHECK.dueThrow("and for no other", Rooms.STATE, () -> room.nest(paired, false));
        CHECK.dueThrow("lay, too", Rooms.STATE, () -> room.lay(paired, 0, 59, 0, false));
    }

    /** "with the least row, of several with the least column". */
    private static void leastPlaces() {
        CuttingRoom room = new CuttingRoom();
        room.setCloth(4, false, 0);
        int cell = Rooms.shape(room, 'q', false, "00");
        for (int column = 0; column < 4; column++) {
            room.addFlaw(0, column);
        }
        for (int column = 0; column < 3; column++) {
            room.addFlaw(1, column);
        }
        room.nest(cell, false);
        CHECK.due("the least row", 1, room.rowOf(0));
        CHECK.due("its last column", 3, room.columnOf(0));
        room.nest(cell, false);
        CHECK.due("the next row", 2, room.rowOf(1));
        CHECK.due("its least column", 0, room.columnOf(1));
        CHECK.due("not turned", 0, room.turnsOf(1));
        room.clearFlaws();
        room.nest(cell, false);
        CHECK.due("the first row is free", 0, room.rowOf(2));
        CHECK.due("its first column", 0, room.columnOf(2));
        CHECK.due("row 0 is taken, which another piece found free", 'p', room.reason(cell, 0, 0, 0, false));
    }

    /** "of several with the least number of quarter turns", also if that is 3. */
    private static void leastTurns() {
        for (int turns = 0; turns < 4; turns++) {
            CuttingRoom room = new CuttingRoom();
            room.setCloth(2, false, 0);
            int corner = Rooms.shape(room, 'q', false, "00 01 10");
            int[][] openCorners = {{1, 1}, {1, 0}, {0, 0}, {0, 1}};
            room.addFlaw(openCorners[turns][0], openCorners[turns][1]);
            room.nest(corner, false);
            CHECK.due("the row, turns " + turns, 0, room.rowOf(0));
            CHECK.due("the turns", turns, room.turnsOf(0));
        }
        CuttingRoom room = new CuttingRoom();
        room.setCloth(2, false, 0);
        int half = Rooms.shape(room, 'h', false, "00 01 10");
        room.addFlaw(0, 0);
        room.nest(half, false);
        CHECK.due("a half", 2, room.turnsOf(0));
        room.clear();
        room.clearFlaws();
        room.addFlaw(0, 1);
        room.nest(half, false);
        CHECK.due("no quarters: the next row", 1, room.rowOf(0));
        CHECK.due("no quarters: not turned", 0, room.turnsOf(0));
        room.clear();
        room.clearFlaws();
        room.setCloth(2, true, 0);
        room.addFlaw(0, 0);
        room.nest(half, false);
        CHECK.due("with a nap: the next row", 1, room.rowOf(0));
        CHECK.due("with a nap: not turned", 0, room.turnsOf(0));
    }

    /** The first place has room for a mirrored piece alone, whatever the turns. */
    private static void nestedAsPlainOrMirroredAsAsked() {
        for (int pairs = 0; pairs < 2; pairs++) {
            CuttingRoom room = new CuttingRoom();
            room.setCloth(2, false, 0);
            int hook = Rooms.shape(room, 'q', pairs == 1, "00 10 20 21");
            room.addFlaw(0, 0);
            room.addFlaw(1, 0);
            CHECK.due("a plain piece", 0, room.nest(hook, false));
            CHECK.due("the row of a plain piece", 2, room.rowOf(0));
            CHECK.due("not turned", 0, room.turnsOf(0));
            room.clear();
            if (pairs == 1) {
                CHECK.due("a mirrored piece", 0, room.nest(hook, true));
                CHECK.due("the row of a mirrored piece", 0, room.rowOf(0));
                CHECK.due("not turned", 0, room.turnsOf(0));
            }
        }
    }

    /** Promise 12: "if it can be laid nowhere". */
    private static void nowhere() {
        CuttingRoom room = new CuttingRoom();
        room.setCloth(3, true, 2);
        int empty = Rooms.shape(room, 'q', true, "");
        int wide = Rooms.shape(room, 'q', true, "00 01 02 03");
        int fits = Rooms.shape(room, 'q', true, "00 01 02");
        CHECK.dueThrow("no cells", Rooms.ELEMENT, () -> room.nest(empty, false));
        CHECK.dueThrow("no cells, mirrored", Rooms.ELEMENT, () -> room.nest(empty, true));
        CHECK.dueThrow("four columns, and a nap", Rooms.ELEMENT, () -> room.nest(wide, false));
        CHECK.due("three columns", 0, room.nest(fits, true));
        room.clear();
        room.setCloth(3, false, 0);
        CHECK.due("no nap, turned", 0, room.nest(wide, false));
        CHECK.due("the turns", 1, room.turnsOf(0));
        room.clear();
        room.fold(true);
        CHECK.due("one column", 0, room.nest(fits, false));
        int block = Rooms.shape(room, 'q', false, "00 01 10 11");
        CHECK.dueThrow("two columns", Rooms.ELEMENT, () -> room.nest(block, false));
        CHECK.dueThrow("a mirrored one on folded cloth", Rooms.ELEMENT, () -> room.nest(fits, true));
        CHECK.due("nothing else was laid", 1, room.inMarker());
    }

    /** The cloth can be filled to its last cell. */
    private static void theLastPlace() {
        CuttingRoom room = new CuttingRoom();
        room.setCloth(3, false, 0);
        room.fold(true);
        int five = Rooms.shape(room, 'n', false, Rooms.block(5, 1));
        int one = Rooms.shape(room, 'n', false, "00");
        for (int i = 0; i < 12; i++) {
            CHECK.due("piece " + i, i, room.nest(five, false));
            CHECK.due("its row", 5 * i, room.rowOf(i));
        }
        CHECK.dueThrow("the cloth is full", Rooms.ELEMENT, () -> room.nest(one, false));
        CHECK.dueThrow("the cloth is full", Rooms.ELEMENT, () -> room.nest(five, false));
        CHECK.due("60 rows", 60, room.length());
        CHECK.due("60 cells", 60, room.used());
        room.takeOff(11);
        for (int i = 12; i < 17; i++) {
            CHECK.due("a cell", i, room.nest(one, false));
            CHECK.due("its row", 43 + i, room.rowOf(i));
        }
        CHECK.dueThrow("the cloth is full again", Rooms.ELEMENT, () -> room.nest(one, false));
        room.takeOff(16);
        CHECK.dueThrow("one cell is too little", Rooms.ELEMENT, () -> room.nest(five, false));
        CHECK.due("but enough for one", 17, room.nest(one, false));
        CHECK.due("in the last row", 59, room.rowOf(17));
    }
}
