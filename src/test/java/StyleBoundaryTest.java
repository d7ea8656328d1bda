/** The boundary cases of 'Styles' and of the promises 24 to 28. */
public final class StyleBoundaryTest {
    private static final Check CHECK = new Check("StyleBoundaryTest");

    private StyleBoundaryTest() {
    }

    public static void main(String[] args) {
        fourStyles();
        countsFrom1To4();
        partsWithStylesAndShapesThatAreThere();
        noPartTwice();
        noPartOfAStyleThatWasMade();
        piecesOfAGarment();
        fourPiecesAreNested();
        fourPiecesAreNestedOnTheFold();
        halvesAreRoundedUp();
        nestedOnThisCloth();
        nestedIntoAnEmptyMarker();
        nestedLengthsUpTo60();
        possibleInSomeOrder();
        theOnlyBestOrder();
        mirroredPiecesAreNestedToo();
        possibleInNoOrder();
        CHECK.end();
    }

    private static void dueNested(String what, int want, CuttingRoom room, int style) {
        CHECK.due(what + ", nestedLength", want, room.nestedLength(style));
        CHECK.due(what + ", nestedByTrying", want, room.nestedByTrying(style));
    }

    private static void dueNestedThrow(String what, Class<? extends RuntimeException> want, CuttingRoom room,
            int style) {
        CHECK.dueThrow(what + ", nestedLength", want, () -> room.nestedLength(style));
        CHECK.dueThrow(what + ", nestedByTrying", want, () -> room.nestedByTrying(style));
    }

    /** "At most 4 styles have the numbers 0, 1, 2 and so on"; "if there are 4 styles". */
    private static void fourStyles() {
        CuttingRoom room = new CuttingRoom();
        room.addShape('n', false);
        for (int i = 0; i < 4; i++) {
            int number = i;
            CHECK.dueThrow("no style " + i + " yet", Rooms.INDEX, () -> room.piecesFor(number));
            dueNestedThrow("no style " + i + " yet", Rooms.INDEX, room, number);
            CHECK.dueThrow("no style " + i + " yet", Rooms.INDEX, () -> room.addPart(number, 0, 1));
            CHECK.due("style " + i, i, room.addStyle());
            CHECK.due("style " + i + " has no parts", 0, room.piecesFor(i));
            CHECK.due("no garment of style " + i, 0, room.made(i));
        }
        CHECK.dueThrow("a fifth", Rooms.STATE, () -> room.addStyle());
        CHECK.dueThrow("a fifth, again", Rooms.STATE, () -> room.addStyle());
        CHECK.dueThrowEach("piecesFor", Rooms.outside(0, 3), Rooms.INDEX, style -> room.piecesFor(style));
        CHECK.dueThrowEach("nestedLength", Rooms.outside(0, 3), Rooms.INDEX, style -> room.nestedLength(style));
        CHECK.dueThrowEach("nestedByTrying", Rooms.outside(0, 3), Rooms.INDEX, style -> room.nestedByTrying(style));
        CHECK.due("a part of the last one", 1, room.addPart(3, 0, 1));
        CHECK.due("none of the first one", 0, room.piecesFor(0));
    }

    /** Promise 25: "the count, 1 to 4"; "for a paired shape, the count is that of pairs". */
    private static void countsFrom1To4() {
        CuttingRoom room = new CuttingRoom();
        int single = room.addShape('n', false);
        int paired = room.addShape('n', true);
        for (int i = 0; i < 4; i++) {
            int style = room.addStyle();
            CHECK.dueThrowEach("single, count", Rooms.outside(1, 4), Rooms.ARGUMENT,
                    count -> room.addPart(style, single, count));
            CHECK.due("single, count " + (i + 1), i + 1, room.addPart(style, single, i + 1));
            CHECK.dueThrowEach("paired, count", Rooms.outside(1, 4), Rooms.ARGUMENT,
                    count -> room.addPart(style, paired, count));
            CHECK.due("paired, count " + (i + 1), 3 * (i + 1), room.addPart(style, paired, i + 1));
            CHECK.due("pieces", 3 * (i + 1), room.piecesFor(style));
        }
    }

    /** Promise 25: "if there is no such style or shape". */
    private static void partsWithStylesAndShapesThatAreThere() {
        CuttingRoom room = new CuttingRoom();
        CHECK.dueThrow("neither", Rooms.INDEX, () -> room.addPart(0, 0, 1));
        room.addStyle();
        CHECK.dueThrow("no shape", Rooms.INDEX, () -> room.addPart(0, 0, 1));
        room.addShape('n', false);
        CHECK.dueThrowEach("style", Rooms.outside(0, 0), Rooms.INDEX, style -> room.addPart(style, 0, 1));
        CHECK.dueThrowEach("shape", Rooms.outside(0, 0), Rooms.INDEX, shape -> room.addPart(0, shape, 1));
        CHECK.due("no part was added", 0, room.piecesFor(0));
        for (int shape = 1; shape < 8; shape++) {
            room.addShape('n', true);
        }
        for (int shape = 0; shape < 8; shape++) {
            CHECK.due("parts of all shapes, " + shape, 4 + 8 * shape, room.addPart(0, shape, 4));
        }
        CHECK.dueThrow("shape 8", Rooms.INDEX, () -> room.addPart(0, 8, 4));
        CHECK.due("the most pieces that a garment can take", 60, room.piecesFor(0));
        CHECK.due("without stock", 0, room.canMake(0));
        CHECK.due("without stock", 0, room.canMakeByTaking(0));
    }

    /** Promise 25: "if the style has a part with this shape". */
    private static void noPartTwice() {
        CuttingRoom room = new CuttingRoom();
        room.addShape('n', false);
        room.addShape('n', true);
        room.addStyle();
        room.addStyle();
        CHECK.due("a part", 1, room.addPart(0, 0, 1));
        for (int count = 1; count <= 4; count++) {
            int again = count;
            CHECK.dueThrow("again, count " + count, Rooms.UNSUPPORTED, () -> room.addPart(0, 0, again));
        }
        CHECK.due("the part is as it was", 1, room.piecesFor(0));
        CHECK.due("another shape", 9, room.addPart(0, 1, 4));
        CHECK.due("another style", 4, room.addPart(1, 0, 4));
    }

    /** Promise 25: "or a garment of it was made". */
    private static void noPartOfAStyleThatWasMade() {
        CuttingRoom room = new CuttingRoom();
        int first = Rooms.shape(room, 'n', false, "00");
        int second = Rooms.shape(room, 'n', false, "00");
        room.addStyle();
        room.addStyle();
        room.addPart(0, first, 1);
        CHECK.dueThrow("no stock, none is made", Rooms.STATE, () -> room.make(0, 1));
        room.addPart(1, first, 1);
        room.addCloth(1);
        room.nest(first, false);
        room.spread(1);
        room.make(0, 1);
        CHECK.dueThrow("one garment", Rooms.UNSUPPORTED, () -> room.addPart(0, second, 1));
        CHECK.due("none of the other style", 2, room.addPart(1, second, 1));
        CHECK.due("one piece", 1, room.piecesFor(0));
    }

    /** Promise 26, from 0 pieces on, on open and folded cloth. */
    private static void piecesOfAGarment() {
        CuttingRoom room = new CuttingRoom();
        room.addShape('n', true);
        room.addShape('n', false);
        room.addStyle();
        CHECK.due("no parts", 0, room.piecesFor(0));
        room.addPart(0, 0, 1);
        CHECK.due("a pair", 2, room.piecesFor(0));
        room.fold(true);
        CHECK.due("a pair, on folded cloth", 2, room.piecesFor(0));
        room.addPart(0, 1, 1);
        CHECK.due("a pair and one", 3, room.piecesFor(0));
    }

    /** Promises 27 and 28: "if more than 4 pieces would be nested, or none". */
    private static void fourPiecesAreNested() {
        CuttingRoom room = new CuttingRoom();
        room.setCloth(2, false, 0);
        int single = Rooms.shape(room, 'n', false, "00 01");
        int paired = Rooms.shape(room, 'n', true, "00 01");
        for (int i = 0; i < 4; i++) {
            room.addStyle();
            dueNestedThrow("no part", Rooms.UNSUPPORTED, room, i);
        }
        for (int count = 1; count <= 4; count++) {
            room.addPart(count - 1, single, count);
            dueNested("single, count " + count, count, room, count - 1);
        }
        room.addPart(0, paired, 1);
        dueNested("one and a pair", 3, room, 0);
        room.addPart(1, paired, 1);
        dueNested("two and a pair", 4, room, 1);
        room.addPart(2, paired, 1);
        dueNestedThrow("three and a pair", Rooms.UNSUPPORTED, room, 2);
        CuttingRoom pairs = new CuttingRoom();
        pairs.setCloth(2, false, 0);
        Rooms.shape(pairs, 'n', true, "00 01");
        for (int count = 1; count <= 4; count++) {
            pairs.addStyle();
            pairs.addPart(count - 1, 0, count);
        }
        dueNested("a pair", 2, pairs, 0);
        dueNested("two pairs", 4, pairs, 1);
        dueNestedThrow("three pairs", Rooms.UNSUPPORTED, pairs, 2);
        dueNestedThrow("four pairs", Rooms.UNSUPPORTED, pairs, 3);
    }

    /** "On folded cloth, one plain piece is nested for each pair". */
    private static void fourPiecesAreNestedOnTheFold() {
        CuttingRoom room = new CuttingRoom();
        room.setCloth(4, false, 0);
        room.fold(true);
        int paired = Rooms.shape(room, 'n', true, "00 01");
        int single = Rooms.shape(room, 'n', false, "00 01");
        for (int count = 1; count <= 4; count++) {
            room.addStyle();
            room.addPart(count - 1, paired, count);
            dueNested("pairs, count " + count, count, room, count - 1);
        }
        room.addPart(2, single, 2);
        dueNested("three pairs and one for two", 4, room, 2);
        room.addPart(1, single, 4);
        dueNested("two pairs and two for four", 4, room, 1);
        room.addPart(3, single, 1);
        dueNestedThrow("four pairs and one", Rooms.UNSUPPORTED, room, 3);
        room.fold(false);
        dueNestedThrow("opened, three pairs and two", Rooms.UNSUPPORTED, room, 2);
        dueNested("opened, one pair", 1, room, 0);
    }

    /** "for single shapes as many pieces as half of the count, rounded up". */
    private static void halvesAreRoundedUp() {
        CuttingRoom room = new CuttingRoom();
        room.setCloth(4, false, 0);
        room.fold(true);
        int single = Rooms.shape(room, 'n', false, "00 01");
        int[] due = {1, 1, 2, 2};
        for (int count = 1; count <= 4; count++) {
            room.addStyle();
            room.addPart(count - 1, single, count);
            dueNested("count " + count, due[count - 1], room, count - 1);
        }
        int other = Rooms.shape(room, 'n', false, "00 01");
        room.addPart(2, other, 3);
        dueNested("each shape is rounded by itself", 4, room, 2);
        int third = Rooms.shape(room, 'n', false, "00 01");
        room.addPart(2, third, 1);
        dueNestedThrow("two, two and one", Rooms.UNSUPPORTED, room, 2);
        room.addPart(0, other, 1);
        dueNested("one and one", 2, room, 0);
    }

    /** "nested .. on this cloth": its width, its nap, its stripes, its flaws and its fold count. */
    private static void nestedOnThisCloth() {
        CuttingRoom room = new CuttingRoom();
        int corner = Rooms.shape(room, 'q', false, "00 10 11");
        room.addStyle();
        room.addPart(0, corner, 2);
        room.setCloth(3, false, 0);
        dueNested("3 columns, turned beside the first one", 2, room, 0);
        room.setCloth(2, false, 0);
        dueNested("2 columns", 4, room, 0);
        room.setCloth(3, true, 0);
        dueNested("with a nap", 4, room, 0);
        room.setCloth(4, true, 0);
        dueNested("with a nap, 4 columns", 2, room, 0);
        room.setMark(corner, 0, 0, 0);
        room.setCloth(3, false, 1);
        dueNested("stripe number 1", 2, room, 0);
        room.setCloth(3, false, 2);
        dueNested("stripe number 2", 3, room, 0);
        room.setCloth(3, false, 3);
        dueNested("stripe number 3", 4, room, 0);
        room.setCloth(3, false, 0);
        room.addFlaw(0, 2);
        dueNested("a flaw", 3, room, 0);
        room.clearFlaws();
        room.setCloth(7, false, 0);
        room.fold(true);
        room.addStyle();
        room.addPart(1, corner, 4);
        dueNested("folded, one corner", 2, room, 0);
        dueNested("folded, two corners", 2, room, 1);
        room.addFlaw(0, 4);
        dueNested("a flaw over the third column", 3, room, 1);
    }

    /** The marker itself does not change, and does not count, even if it is full. */
    private static void nestedIntoAnEmptyMarker() {
        CuttingRoom room = new CuttingRoom();
        room.setCloth(12, false, 2);
        int cell = Rooms.shape(room, 'n', false, "00");
        room.setMark(cell, 1, 0, 0);
        room.lay(cell, 0, 1, 0, false);
        Rooms.nest(room, cell, false, Rooms.MARKER - 1);
        room.addStyle();
        room.addPart(0, cell, 4);
        int length = room.length();
        dueNested("the marker is full", 1, room, 0);
        CHECK.due("it is still full", 40, room.inMarker());
        CHECK.due("its length", length, room.length());
        CHECK.due("its remainder", 1, room.phase(1));
        CHECK.due("its first piece", 0, room.pieceAt(1, 0));
        CHECK.due("its first piece", 0, room.pieceByPieces(1, 0));
        CHECK.dueThrow("row 0 is free", Rooms.STATE, () -> room.pieceAt(0, 0));
        room.takeOff(0);
        CHECK.due("numbers go on", 40, room.lay(cell, 0, 59, 0, false));
    }

    /** The greatest length that can be is that of all rows of the cloth. */
    private static void nestedLengthsUpTo60() {
        CuttingRoom room = new CuttingRoom();
        room.setCloth(2, false, 0);
        int wide = Rooms.shape(room, 'n', false, Rooms.block(5, 2));
        room.addStyle();
        room.addPart(0, wide, 1);
        dueNested("the first rows", 5, room, 0);
        for (int row = 4; row < 55; row += 5) {
            room.addFlaw(row, row % 2);
        }
        dueNested("the last rows", 60, room, 0);
        room.addFlaw(55, 1);
        dueNestedThrow("one flaw more", Rooms.STATE, room, 0);
        room.clearFlaws();
        int two = Rooms.shape(room, 'n', false, Rooms.block(5, 2));
        for (int row = 4; row < 50; row += 5) {
            room.addFlaw(row, 0);
        }
        room.addPart(0, two, 1);
        dueNested("two in the last ten rows", 60, room, 0);
        room.addFlaw(52, 0);
        dueNestedThrow("too few rows for two", Rooms.STATE, room, 0);
    }

    /** "in some order": one order that is possible is enough, whichever shape was added first. */
    private static void possibleInSomeOrder() {
        String[] cells = {"00 01", Rooms.block(5, 2)};
        for (int low = 0; low < 2; low++) {
            int high = 1 - low;
            CuttingRoom room = new CuttingRoom();
            room.setCloth(2, false, 0);
            Rooms.shape(room, 'n', false, cells[low]);
            Rooms.shape(room, 'n', false, cells[high]);
            for (int row = 5; row < 60; row += 5) {
                room.addFlaw(row, 0);
            }
            room.addStyle();
            room.addPart(0, 0, 1);
            room.addPart(0, 1, 1);
            dueNested("the high one first, shape " + high, 7, room, 0);
            room.nest(low, false);
            CHECK.dueThrow("the low one first", Rooms.ELEMENT, () -> room.nest(high, false));
        }
        CuttingRoom striped = new CuttingRoom();
        striped.setCloth(2, false, 2);
        int odd = Rooms.shape(striped, 'n', false, Rooms.block(5, 2));
        int even = Rooms.shape(striped, 'n', false, Rooms.block(4, 2));
        striped.setMark(odd, 0, 0, 0);
        striped.setMark(even, 0, 0, 0);
        striped.addStyle();
        striped.addPart(0, odd, 1);
        striped.addPart(0, even, 1);
        dueNested("the one with four rows first", 9, striped, 0);
    }

    /** Four shapes that fill four rows in one of their 24 orders alone; they are numbered in each of the 24 ways. */
    private static void theOnlyBestOrder() {
        String[] best = {"00 01 10", "01 10", "00 10", "00"};
        for (int order = 0; order < 24; order++) {
            int[] numbers = numbersInOrder(order);
            CuttingRoom room = new CuttingRoom();
            room.setCloth(2, false, 0);
            for (int number = 0; number < 4; number++) {
                room.addShape('n', false);
            }
            for (int i = 0; i < 4; i++) {
                for (String cell : best[i].split(" ")) {
                    room.addCell(numbers[i], cell.charAt(0) - '0', cell.charAt(1) - '0');
                }
            }
            room.addStyle();
            for (int number = 0; number < 4; number++) {
                room.addPart(0, number, 1);
            }
            dueNested("the best order is number " + order, 4, room, 0);
            room.nest(numbers[0], false);
            room.nest(numbers[1], false);
            room.nest(numbers[3], false);
            room.nest(numbers[2], false);
            CHECK.due("another order is longer", true, room.length() > 4);
        }
    }

    /** The numbers 0 to 3, in the order with this number. */
    private static int[] numbersInOrder(int order) {
        int[] numbers = {0, 1, 2, 3};
        int digits = order;
        for (int left = 4; left > 1; left--) {
            int place = digits % left;
            digits /= left;
            int number = numbers[place];
            numbers[place] = numbers[left - 1];
            numbers[left - 1] = number;
        }
        return numbers;
    }

    /** "all pieces that a garment takes": for a pair, a plain and a mirrored one. */
    private static void mirroredPiecesAreNestedToo() {
        CuttingRoom room = new CuttingRoom();
        room.setCloth(2, false, 0);
        Rooms.shape(room, 'n', true, "00 01 10");
        Rooms.shape(room, 'n', false, "00 01 10");
        room.addFlaw(1, 1);
        room.addFlaw(3, 0);
        room.addStyle();
        room.addStyle();
        room.addPart(0, 0, 1);
        room.addPart(1, 1, 2);
        dueNested("a plain and a mirrored one", 4, room, 0);
        dueNested("two plain ones", 6, room, 1);
    }

    /** Promises 27 and 28: "if it is possible in no order". */
    private static void possibleInNoOrder() {
        CuttingRoom room = new CuttingRoom();
        room.setCloth(4, false, 0);
        int empty = Rooms.shape(room, 'q', false, "");
        int wide = Rooms.shape(room, 'n', true, "00 01 02 03 04");
        int fits = Rooms.shape(room, 'n', true, "00 01 02 03");
        for (int i = 0; i < 3; i++) {
            room.addStyle();
            room.addPart(i, i == 0 ? empty : i == 1 ? wide : fits, 1);
        }
        dueNestedThrow("no cells", Rooms.STATE, room, 0);
        dueNestedThrow("too wide", Rooms.STATE, room, 1);
        dueNested("it fits", 2, room, 2);
        room.addPart(2, empty, 1);
        dueNestedThrow("one of three has no cells", Rooms.STATE, room, 2);
        room.addPart(1, fits, 1);
        dueNestedThrow("two of four are too wide", Rooms.STATE, room, 1);
        room.setCloth(5, false, 0);
        dueNested("they fit", 4, room, 1);
        room.fold(true);
        dueNestedThrow("folded, too wide", Rooms.STATE, room, 1);
        room.addPart(0, fits, 3);
        dueNestedThrow("folded, four pieces", Rooms.STATE, room, 0);
        CHECK.due("nothing was laid", 0, room.inMarker());
    }
}
