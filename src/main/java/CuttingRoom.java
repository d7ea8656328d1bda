import java.util.Arrays;
import java.util.NoSuchElementException;

/** A cutting room: shapes, striped cloth, a marker of laid pieces, plies that are cut, and garments. */
public final class CuttingRoom {
    private static final int NONE = -1;
    private static final char FREE = '-';

    private static final int ROWS = 60;
    private static final int COLUMNS = 12;
    private static final int LEAST_WIDTH = 2;
    private static final int MOST_STRIPES = 6;
    private static final int MOST_FLAWS = 12;

    private static final int SIDE = 5;
    private static final int LAST = SIDE - 1;
    private static final int TURNS = 4;
    private static final int GROUPS = 4;
    private static final int SORTS = 2;

    private static final int MOST_SHAPES = 8;
    private static final int MOST_PIECES = 40;
    private static final int MOST_STYLES = 4;
    private static final int MOST_COUNT = 4;
    private static final int MOST_NESTED = 4;
    private static final int MOST_PLIES = 50;
    private static final int MOST_GARMENTS = 99;
    private static final int MOST_STOCK = 9999;
    private static final int MOST_ADDED = 9999;
    private static final int MOST_ROLL = 999999;

    /** Stands for the length of a marker that cannot be laid; every length that can be is less. */
    private static final int TOO_LONG = ROWS + 1;

    private final Cloth cloth;
    private final Marker marker;
    private final Shape[] shapes;
    private int shapeCount;
    private final Style[] styles;
    private int styleCount;
    private int rollRows;

    /** The marker that nestedLength and nestedByTrying fill, so that the real one does not change. */
    private final Marker trial;
    /** How many pieces of each kind are still to be nested; a kind is a shape and a sort. */
    private final int[] wanted;
    /** The kinds that are still to be nested, one entry for each piece. */
    private final int[] queue;
    /** What canMakeByTaking has left of each kind. */
    private final int[] untaken;

    public CuttingRoom() {
        cloth = new Cloth();
        marker = new Marker();
        shapes = new Shape[MOST_SHAPES];
        styles = new Style[MOST_STYLES];
        trial = new Marker();
        wanted = new int[MOST_SHAPES * SORTS];
        queue = new int[MOST_NESTED];
        untaken = new int[MOST_SHAPES * SORTS];
    }

    // ---- cloth ----

    public int setCloth(int width, boolean hasNap, int stripes)
            throws IllegalArgumentException, IllegalStateException {
        if (!isWithin(width, LEAST_WIDTH, COLUMNS) || !isWithin(stripes, 0, MOST_STRIPES)) {
            throw new IllegalArgumentException("the width or the stripe number is out of range");
        }
        if (marker.count > 0 || cloth.flaws > 0) {
            throw new IllegalStateException("the marker is not empty, or there are flaws");
        }
        int before = cloth.width;
        cloth.width = width;
        cloth.hasNap = hasNap;
        cloth.stripes = stripes;
        return before;
    }

    public boolean fold(boolean isFolded) throws IllegalStateException {
        if (marker.count > 0) {
            throw new IllegalStateException("the marker is not empty");
        }
        boolean before = cloth.isFolded;
        cloth.foldOrOpen(isFolded);
        return before;
    }

    public int addFlaw(int row, int column)
            throws IllegalArgumentException, UnsupportedOperationException, IllegalStateException {
        if (!isWithin(row, 0, ROWS - 1) || !isWithin(column, 0, cloth.width - 1)) {
            throw new IllegalArgumentException("there is no such cell");
        }
        if (isUnderPiece(row, column)) {
            throw new UnsupportedOperationException("a piece of the marker would be on the flaw");
        }
        if (!cloth.isTold(row, column)) {
            if (cloth.flaws >= MOST_FLAWS) {
                throw new IllegalStateException("there are 12 flaws");
            }
            cloth.tell(row, column);
        }
        return cloth.flaws;
    }

    private boolean isUnderPiece(int row, int column) {
        return marker.ownerOf(row, column) != NONE
                || (cloth.isFolded && marker.ownerOf(row, cloth.opposite(column)) != NONE);
    }

    public int clearFlaws() {
        int before = cloth.flaws;
        cloth.forgetFlaws();
        return before;
    }

    // ---- shapes ----

    public int addShape(char rule, boolean isPaired) throws IllegalArgumentException, IllegalStateException {
        if (rule != 'n' && rule != 'h' && rule != 'q') {
            throw new IllegalArgumentException("there is no such rule");
        }
        int number = shapeCount;
        if (number < 0 || number >= shapes.length) {
            throw new IllegalStateException("there are 8 shapes");
        }
        shapes[number] = new Shape(rule, isPaired);
        shapeCount++;
        return number;
    }

    public int addCell(int shape, int row, int column)
            throws IndexOutOfBoundsException, IllegalArgumentException,
            UnsupportedOperationException, IllegalStateException {
        Shape drawn = shapeOrThrow(shape);
        if (!isWithin(row, 0, LAST) || !isWithin(column, 0, LAST)) {
            throw new IllegalArgumentException("the row or the column is out of range");
        }
        if (drawn.hasCell(row, column)) {
            throw new UnsupportedOperationException("the shape has this cell");
        }
        if (marker.holds(drawn) || drawn.everCut > 0) {
            throw new IllegalStateException("a piece of the shape is in the marker or was cut");
        }
        drawn.draw(row, column);
        return drawn.cells;
    }

    public int setMark(int shape, int group, int row, int column)
            throws IndexOutOfBoundsException, IllegalArgumentException, IllegalStateException {
        Shape marked = shapeOrThrow(shape);
        if (!isWithin(group, NONE, GROUPS - 1) || !isWithin(row, 0, LAST) || !isWithin(column, 0, LAST)) {
            throw new IllegalArgumentException("the group, the row or the column is out of range");
        }
        if (marker.holds(marked)) {
            throw new IllegalStateException("a piece of the shape is in the marker");
        }
        int before = marked.group;
        marked.mark(group, row, column);
        return before;
    }

    public int cellsOf(int shape) throws IndexOutOfBoundsException {
        return shapeOrThrow(shape).cells;
    }

    private Shape shapeOrThrow(int number) {
        Shape shape = shapeNumbered(number);
        if (shape == null) {
            throw new IndexOutOfBoundsException("there is no such shape");
        }
        return shape;
    }

    /** Returns the shape, or null if there is none with this number. */
    private Shape shapeNumbered(int number) {
        return number >= 0 && number < shapes.length ? shapes[number] : null;
    }

    // ---- laying ----

    public int lay(int shape, int turns, int row, int column, boolean isMirrored)
            throws IndexOutOfBoundsException, IllegalArgumentException,
            UnsupportedOperationException, IllegalStateException {
        Shape laid = shapeOrThrow(shape);
        checkTurns(turns);
        if (marker.obstacle(cloth, laid, turns, row, column, isMirrored) != FREE) {
            throw new UnsupportedOperationException("the piece cannot be laid");
        }
        if (marker.isFull()) {
            throw new IllegalStateException("there are 40 pieces in the marker");
        }
        return marker.put(cloth, laid, turns, row, column, isMirrored);
    }

    public char reason(int shape, int turns, int row, int column, boolean isMirrored)
            throws IndexOutOfBoundsException, IllegalArgumentException {
        Shape asked = shapeOrThrow(shape);
        checkTurns(turns);
        return marker.obstacle(cloth, asked, turns, row, column, isMirrored);
    }

    private static void checkTurns(int turns) {
        if (!isWithin(turns, 0, TURNS - 1)) {
            throw new IllegalArgumentException("the number of turns is out of range");
        }
    }

    public int nest(int shape, boolean isMirrored)
            throws IndexOutOfBoundsException, NoSuchElementException, IllegalStateException {
        Shape nested = shapeOrThrow(shape);
        int spot = marker.firstSpot(cloth, nested, isMirrored);
        if (spot == NONE) {
            throw new NoSuchElementException("the piece can be laid nowhere");
        }
        if (marker.isFull()) {
            throw new IllegalStateException("there are 40 pieces in the marker");
        }
        return marker.putAtSpot(cloth, nested, spot, isMirrored);
    }

    // ---- marker ----

    public int takeOff(int piece) throws NoSuchElementException {
        pieceOrThrow(piece);
        marker.remove(piece);
        return marker.rowsUsed();
    }

    public int clear() {
        int before = marker.count;
        marker.empty();
        return before;
    }

    public int inMarker() {
        return marker.count;
    }

    public int rowOf(int piece) throws NoSuchElementException {
        return pieceOrThrow(piece).row;
    }

    public int columnOf(int piece) throws NoSuchElementException {
        return pieceOrThrow(piece).column;
    }

    public int turnsOf(int piece) throws NoSuchElementException {
        return pieceOrThrow(piece).turns;
    }

    private Piece pieceOrThrow(int number) {
        Piece piece = marker.pieceNumbered(number);
        if (piece == null) {
            throw new NoSuchElementException("there is no such piece in the marker");
        }
        return piece;
    }

    public int pieceAt(int row, int column) throws IllegalArgumentException, IllegalStateException {
        checkCell(row, column);
        return numberOrThrow(marker.ownerOf(row, column));
    }

    public int pieceByPieces(int row, int column) throws IllegalArgumentException, IllegalStateException {
        checkCell(row, column);
        return numberOrThrow(marker.ownerByPieces(row, column));
    }

    private static void checkCell(int row, int column) {
        if (!isWithin(row, 0, ROWS - 1) || !isWithin(column, 0, COLUMNS - 1)) {
            throw new IllegalArgumentException("the row or the column is out of range");
        }
    }

    private static int numberOrThrow(int number) {
        if (number == NONE) {
            throw new IllegalStateException("no piece has this cell");
        }
        return number;
    }

    public int length() {
        return marker.rowsUsed();
    }

    public int used() {
        return marker.cellsUsed();
    }

    public int phase(int group) throws IllegalArgumentException, IllegalStateException {
        if (!isWithin(group, 0, GROUPS - 1)) {
            throw new IllegalArgumentException("there is no such group");
        }
        if (!cloth.isStriped() || entry(marker.members, group) == 0) {
            throw new IllegalStateException("there are no stripes, or no piece is of the group");
        }
        return entry(marker.phases, group);
    }

    // ---- styles ----

    public int addStyle() throws IllegalStateException {
        int number = styleCount;
        if (number < 0 || number >= styles.length) {
            throw new IllegalStateException("there are 4 styles");
        }
        styles[number] = new Style();
        styleCount++;
        return number;
    }

    public int addPart(int style, int shape, int count)
            throws IndexOutOfBoundsException, IllegalArgumentException, UnsupportedOperationException {
        Style changed = styleOrThrow(style);
        shapeOrThrow(shape);
        if (!isWithin(count, 1, MOST_COUNT)) {
            throw new IllegalArgumentException("the count is out of range");
        }
        if (entry(changed.counts, shape) > 0 || changed.garments > 0) {
            throw new UnsupportedOperationException("the style has this part, or a garment of it was made");
        }
        store(changed.counts, shape, count);
        return piecesOfGarment(changed);
    }

    public int piecesFor(int style) throws IndexOutOfBoundsException {
        return piecesOfGarment(styleOrThrow(style));
    }

    private Style styleOrThrow(int number) {
        Style style = number >= 0 && number < styles.length ? styles[number] : null;
        if (style == null) {
            throw new IndexOutOfBoundsException("there is no such style");
        }
        return style;
    }

    private Style styleWithPartsOrThrow(int number) {
        Style style = styleOrThrow(number);
        if (!style.hasParts()) {
            throw new UnsupportedOperationException("the style has no parts");
        }
        return style;
    }

    private int piecesOfGarment(Style style) {
        int sum = 0;
        for (int number = 0; number < shapeCount; number++) {
            sum += piecesOfPart(style, number);
        }
        return sum;
    }

    private int piecesOfPart(Style style, int number) {
        Shape shape = shapeNumbered(number);
        int count = entry(style.counts, number);
        return shape != null && shape.isPaired ? 2 * count : count;
    }

    // ---- nesting a style ----

    public int nestedLength(int style)
            throws IndexOutOfBoundsException, UnsupportedOperationException, IllegalStateException {
        int count = wantPieces(styleOrThrow(style));
        trial.empty();
        return lengthOrThrow(shortest(count, TOO_LONG));
    }

    public int nestedByTrying(int style)
            throws IndexOutOfBoundsException, UnsupportedOperationException, IllegalStateException {
        int count = wantPieces(styleOrThrow(style));
        int orders = 1;
        for (int left = count; left > 1; left--) {
            orders *= left;
        }
        int least = TOO_LONG;
        for (int order = 0; order < orders; order++) {
            least = Math.min(least, lengthInOrder(order, count));
        }
        return lengthOrThrow(least);
    }

    private static int lengthOrThrow(int length) {
        if (length >= TOO_LONG) {
            throw new IllegalStateException("the pieces can be nested in no order");
        }
        return length;
    }

    /** Counts in wanted what is to be nested for one garment, and returns the number of all these pieces. */
    private int wantPieces(Style style) {
        int sum = 0;
        for (int number = 0; number < MOST_SHAPES; number++) {
            int plain = plainToNest(style, number);
            int mirrored = mirroredToNest(style, number);
            store(wanted, kindOf(number, false), plain);
            store(wanted, kindOf(number, true), mirrored);
            sum += plain + mirrored;
        }
        if (!isWithin(sum, 1, MOST_NESTED)) {
            throw new UnsupportedOperationException("more than 4 pieces would be nested, or none");
        }
        return sum;
    }

    private int plainToNest(Style style, int number) {
        Shape shape = shapeNumbered(number);
        int count = entry(style.counts, number);
        boolean cutsTwo = cloth.isFolded && shape != null && !shape.isPaired;
        return cutsTwo ? (count + 1) / 2 : count;
    }

    private int mirroredToNest(Style style, int number) {
        Shape shape = shapeNumbered(number);
        return shape != null && shape.isPaired && !cloth.isFolded ? entry(style.counts, number) : 0;
    }

    /** Nests what is left behind the pieces in the trial: the least length under limit, or limit if none is. */
    private int shortest(int left, int limit) {
        if (left <= 0) {
            return Math.min(limit, trial.rowsUsed());
        }
        int least = limit;
        for (int kind = 0; kind < wanted.length; kind++) {
            if (wanted[kind] > 0) {
                least = shortestWith(kind, left, least);
            }
        }
        return least;
    }

    private int shortestWith(int kind, int left, int limit) {
        int piece = nestInTrial(kind);
        if (piece == NONE) {
            return limit;
        }
        int least = limit;
        if (trial.rowsUsed() < limit) {
            store(wanted, kind, entry(wanted, kind) - 1);
            least = shortest(left - 1, limit);
            store(wanted, kind, entry(wanted, kind) + 1);
        }
        trial.remove(piece);
        return least;
    }

    /** The orders of count pieces are numbered: the digits of the number tell which piece comes next. */
    private int lengthInOrder(int order, int count) {
        trial.empty();
        fillQueue();
        int digits = order;
        for (int left = count; left > 0; left--) {
            int place = digits % left;
            digits /= left;
            int kind = entry(queue, place);
            store(queue, place, entry(queue, left - 1));
            if (nestInTrial(kind) == NONE) {
                return TOO_LONG;
            }
        }
        return trial.rowsUsed();
    }

    private void fillQueue() {
        int end = 0;
        for (int kind = 0; kind < wanted.length; kind++) {
            for (int i = 0; i < wanted[kind]; i++) {
                store(queue, end, kind);
                end++;
            }
        }
    }

    /** Returns the number of the piece in the trial, or NONE if it can be laid nowhere. */
    private int nestInTrial(int kind) {
        Shape shape = shapeNumbered(kind / SORTS);
        if (shape == null) {
            return NONE;
        }
        boolean isMirrored = kind % SORTS == 1;
        int spot = trial.firstSpot(cloth, shape, isMirrored);
        return spot == NONE ? NONE : trial.putAtSpot(cloth, shape, spot, isMirrored);
    }

    private static int kindOf(int shape, boolean isMirrored) {
        return shape * SORTS + (isMirrored ? 1 : 0);
    }

    // ---- cutting ----

    public int addCloth(int rows) throws IllegalArgumentException {
        if (!isWithin(rows, 1, MOST_ADDED) || rollRows + rows > MOST_ROLL) {
            throw new IllegalArgumentException("the length is out of range, or the roll would be too long");
        }
        rollRows += rows;
        return rollRows;
    }

    public int roll() {
        return rollRows;
    }

    public int spread(int plies)
            throws IllegalArgumentException, UnsupportedOperationException, IllegalStateException {
        if (!isWithin(plies, 1, MOST_PLIES)) {
            throw new IllegalArgumentException("the number of plies is out of range");
        }
        if (marker.count == 0) {
            throw new UnsupportedOperationException("the marker is empty");
        }
        int rows = plies * marker.rowsUsed() * (cloth.isFolded ? 2 : 1);
        if (rows > rollRows || !stockHolds(plies)) {
            throw new IllegalStateException("the roll is too short, or the stock would be too large");
        }
        rollRows -= rows;
        for (int number = 0; number < shapeCount; number++) {
            cutPlies(shapeNumbered(number), plies);
        }
        return rollRows;
    }

    private boolean stockHolds(int plies) {
        for (int number = 0; number < shapeCount; number++) {
            Shape shape = shapeNumbered(number);
            if (shape != null && (shape.plain + plies * perPly(shape, false) > MOST_STOCK
                    || shape.mirrored + plies * perPly(shape, true) > MOST_STOCK)) {
                return false;
            }
        }
        return true;
    }

    private void cutPlies(Shape shape, int plies) {
        if (shape != null) {
            shape.receive(plies * perPly(shape, false), plies * perPly(shape, true));
        }
    }

    /** How many pieces of this sort one ply of the marker gives. */
    private int perPly(Shape shape, boolean isMirrored) {
        if (!cloth.isFolded) {
            return marker.countOf(shape, isMirrored);
        }
        int laid = marker.countOf(shape, false);
        if (shape.isPaired) {
            return laid;
        }
        return isMirrored ? 0 : 2 * laid;
    }

    public int pieces(int shape, boolean isMirrored)
            throws IndexOutOfBoundsException, UnsupportedOperationException {
        Shape asked = shapeOrThrow(shape);
        if (isMirrored && !asked.isPaired) {
            throw new UnsupportedOperationException("a single shape has no mirrored pieces");
        }
        return isMirrored ? asked.mirrored : asked.plain;
    }

    public long cut() {
        long sum = 0;
        for (int number = 0; number < shapeCount; number++) {
            Shape shape = shapeNumbered(number);
            sum += shape == null ? 0 : shape.everCut;
        }
        return sum;
    }

    // ---- garments ----

    public int canMake(int style) throws IndexOutOfBoundsException, UnsupportedOperationException {
        return garmentsInStock(styleWithPartsOrThrow(style));
    }

    private int garmentsInStock(Style style) {
        int least = MOST_STOCK;
        for (int number = 0; number < shapeCount; number++) {
            Shape shape = shapeNumbered(number);
            int count = entry(style.counts, number);
            if (shape != null && count > 0) {
                least = Math.min(least, shape.whole() / count);
            }
        }
        return least;
    }

    public int canMakeByTaking(int style) throws IndexOutOfBoundsException, UnsupportedOperationException {
        Style asked = styleWithPartsOrThrow(style);
        for (int number = 0; number < MOST_SHAPES; number++) {
            Shape shape = shapeNumbered(number);
            store(untaken, kindOf(number, false), shape == null ? 0 : shape.plain);
            store(untaken, kindOf(number, true), shape == null ? 0 : shape.mirrored);
        }
        int garments = 0;
        while (garments < MOST_STOCK && takesGarment(asked)) {
            garments++;
        }
        return garments;
    }

    /** Takes the pieces of one garment; if they are too few, some are taken all the same. */
    private boolean takesGarment(Style style) {
        for (int number = 0; number < shapeCount; number++) {
            Shape shape = shapeNumbered(number);
            int count = entry(style.counts, number);
            if (shape != null && !takesPart(number, shape.isPaired, count)) {
                return false;
            }
        }
        return true;
    }

    private boolean takesPart(int shape, boolean isPaired, int count) {
        return takesKind(kindOf(shape, false), count)
                && (!isPaired || takesKind(kindOf(shape, true), count));
    }

    private boolean takesKind(int kind, int count) {
        int left = entry(untaken, kind) - count;
        store(untaken, kind, left);
        return left >= 0;
    }

    public int make(int style, int garments)
            throws IndexOutOfBoundsException, IllegalArgumentException,
            UnsupportedOperationException, IllegalStateException {
        styleOrThrow(style);
        checkGarments(garments);
        Style sewn = styleWithPartsOrThrow(style);
        if (garmentsInStock(sewn) < garments) {
            throw new IllegalStateException("there are too few pieces");
        }
        for (int number = 0; number < shapeCount; number++) {
            Shape shape = shapeNumbered(number);
            if (shape != null) {
                shape.giveAway(garments * entry(sewn.counts, number));
            }
        }
        sewn.garments += garments;
        return sewn.garments;
    }

    private static void checkGarments(int garments) {
        if (!isWithin(garments, 1, MOST_GARMENTS)) {
            throw new IllegalArgumentException("the number of garments is out of range");
        }
    }

    public int made(int style) throws IndexOutOfBoundsException {
        return styleOrThrow(style).garments;
    }

    public int pliesFor(int style, int garments)
            throws IndexOutOfBoundsException, IllegalArgumentException,
            UnsupportedOperationException, IllegalStateException {
        styleOrThrow(style);
        checkGarments(garments);
        Style asked = styleWithPartsOrThrow(style);
        int plies = 0;
        for (int number = 0; number < shapeCount; number++) {
            int forPart = pliesForPart(shapeNumbered(number), garments * entry(asked.counts, number));
            if (forPart == NONE) {
                throw new IllegalStateException("no number of plies is enough");
            }
            plies = Math.max(plies, forPart);
        }
        return plies;
    }

    /** Returns NONE if no number of plies gives as many pieces, or as many pairs, as are needed. */
    private int pliesForPart(Shape shape, int needed) {
        if (shape == null) {
            return 0;
        }
        int forPlain = pliesForSort(needed - shape.plain, perPly(shape, false));
        int forMirrored = shape.isPaired ? pliesForSort(needed - shape.mirrored, perPly(shape, true)) : 0;
        if (forPlain == NONE || forMirrored == NONE) {
            return NONE;
        }
        return Math.max(forPlain, forMirrored);
    }

    private static int pliesForSort(int missing, int perPly) {
        if (missing <= 0) {
            return 0;
        }
        return perPly > 0 ? (missing + perPly - 1) / perPly : NONE;
    }

    // ---- shares and soundness ----

    public float density() throws ArithmeticException {
        int area = marker.rowsUsed() * cloth.openColumns();
        if (area <= 0) {
            throw new ArithmeticException("the marker is empty");
        }
        return (float) marker.cellsUsed() / (float) area;
    }

    public double meanCells() throws ArithmeticException {
        int count = marker.count;
        if (count <= 0) {
            throw new ArithmeticException("the marker is empty");
        }
        return (double) marker.cellsUsed() / (double) count;
    }

    public boolean isSound() {
        if (!marker.hasNoOverlap()) {
            return false;
        }
        for (int number = 0; number < shapeCount; number++) {
            Shape shape = shapeNumbered(number);
            if (shape != null && shape.everCut != shape.plain + shape.mirrored + inGarments(number)) {
                return false;
            }
        }
        return true;
    }

    private long inGarments(int shape) {
        long sum = 0;
        for (int number = 0; number < styles.length; number++) {
            Style style = styles[number];
            if (style != null) {
                sum += (long) style.garments * piecesOfPart(style, shape);
            }
        }
        return sum;
    }

    // ---- numbers and rows of numbers ----

    private static boolean isWithin(int value, int least, int most) {
        return value >= least && value <= most;
    }

    /** Returns what stands at the index, or 0 outside. */
    private static int entry(int[] numbers, int index) {
        return index >= 0 && index < numbers.length ? numbers[index] : 0;
    }

    /** Puts the value at the index; nothing changes outside. */
    private static void store(int[] numbers, int index, int value) {
        if (index >= 0 && index < numbers.length) {
            numbers[index] = value;
        }
    }

    /** Rows of cells are held as bits: bit 0 for column 0. */
    private static boolean hasBit(int bits, int place) {
        return (bits >> place & 1) != 0;
    }

    /** Returns the place of the least bit, or SIDE if there is none in the square. */
    private static int firstBit(int bits) {
        int place = 0;
        while (place < SIDE && !hasBit(bits, place)) {
            place++;
        }
        return place;
    }

    /** Returns 1 plus the place of the greatest bit in the square, or 0 if there is none. */
    private static int endOfBits(int bits) {
        int end = SIDE;
        while (end > 0 && !hasBit(bits, end - 1)) {
            end--;
        }
        return end;
    }

    /** The cloth and its flaws. */
    private static final class Cloth {
        int width;
        boolean hasNap;
        boolean isFolded;
        int stripes;
        int flaws;
        /** The flaws that were told, a row of bits for each row of the cloth. */
        private final int[] told;
        /** The same, but on folded cloth with the cells that lie over or under them. */
        final int[] spoiled;

        Cloth() {
            width = COLUMNS;
            told = new int[ROWS];
            spoiled = new int[ROWS];
        }

        /** The number of columns on which pieces are laid. */
        int openColumns() {
            return isFolded ? width / 2 : width;
        }

        boolean isStriped() {
            return stripes >= 2;
        }

        /** Returns the remainder of a row by the stripe number, or 0 for all rows if there are no stripes. */
        int remainder(int row) {
            return stripes >= 2 ? Math.floorMod(row, stripes) : 0;
        }

        int opposite(int column) {
            return width - 1 - column;
        }

        void foldOrOpen(boolean isToFold) {
            isFolded = isToFold;
            spoilRows();
        }

        boolean isTold(int row, int column) {
            return hasBit(entry(told, row), column);
        }

        void tell(int row, int column) {
            store(told, row, entry(told, row) | 1 << column);
            flaws++;
            spoilRows();
        }

        void forgetFlaws() {
            Arrays.fill(told, 0);
            flaws = 0;
            spoilRows();
        }

        private void spoilRows() {
            for (int row = 0; row < ROWS; row++) {
                int bits = entry(told, row);
                store(spoiled, row, isFolded ? bits | reversed(bits) : bits);
            }
        }

        private int reversed(int bits) {
            int result = 0;
            for (int column = 0; column < width; column++) {
                if (hasBit(bits, column)) {
                    result |= 1 << opposite(column);
                }
            }
            return result;
        }

        /** Whether all cells of the outline are where pieces are laid. */
        boolean reaches(Outline outline, int row, int column) {
            return isWithin(row, 0, ROWS - outline.height)
                    && isWithin(column, 0, openColumns() - outline.width);
        }
    }

    /** The cells of a shape as they lie after mirroring and turning, moved to row 0 and column 0. */
    private static final class Outline {
        private final int turns;
        private final boolean isMirrored;
        /** The cells, a row of bits for each row. */
        final int[] rows;
        int height;
        int width;
        /** The row of the mark, counted from the least row of the cells; it can be less than 0. */
        int markRow;

        Outline(int turns, boolean isMirrored) {
            this.turns = turns;
            this.isMirrored = isMirrored;
            rows = new int[SIDE];
        }

        void trace(int[] drawn, int rowOfMark, int columnOfMark) {
            Arrays.fill(rows, 0);
            int rowBits = 0;
            int columnBits = 0;
            for (int row = 0; row < SIDE; row++) {
                for (int column = 0; column < SIDE; column++) {
                    if (hasBit(entry(drawn, row), column)) {
                        int newRow = turnedRow(row, column);
                        int newColumn = turnedColumn(row, column);
                        store(rows, newRow, entry(rows, newRow) | 1 << newColumn);
                        rowBits |= 1 << newRow;
                        columnBits |= 1 << newColumn;
                    }
                }
            }
            int top = firstBit(rowBits);
            int left = firstBit(columnBits);
            for (int row = 0; row < SIDE; row++) {
                store(rows, row, entry(rows, row + top) >> left);
            }
            height = endOfBits(rowBits) - top;
            width = endOfBits(columnBits) - left;
            markRow = turnedRow(rowOfMark, columnOfMark) - top;
        }

        private int turnedRow(int row, int column) {
            int across = isMirrored ? LAST - column : column;
            switch (turns) {
                case 0: return row;
                case 1: return across;
                case 2: return LAST - row;
                default: return LAST - across;
            }
        }

        private int turnedColumn(int row, int column) {
            int across = isMirrored ? LAST - column : column;
            switch (turns) {
                case 0: return across;
                case 1: return LAST - row;
                case 2: return LAST - across;
                default: return row;
            }
        }

        boolean hasCell(int row, int column) {
            return isWithin(column, 0, LAST) && hasBit(entry(rows, row), column);
        }
    }

    /** A shape with its drawing, its mark, and its pieces in the stock. */
    private static final class Shape {
        private final char rule;
        final boolean isPaired;
        private final int[] drawing;
        private final Outline[] outlines;
        int cells;
        int group;
        private int markRow;
        private int markColumn;
        int plain;
        int mirrored;
        long everCut;

        Shape(char rule, boolean isPaired) {
            this.rule = rule;
            this.isPaired = isPaired;
            drawing = new int[SIDE];
            group = NONE;
            outlines = new Outline[TURNS * SORTS];
            for (int i = 0; i < outlines.length; i++) {
                outlines[i] = new Outline(i % TURNS, i >= TURNS);
            }
        }

        boolean hasCell(int row, int column) {
            return hasBit(entry(drawing, row), column);
        }

        void draw(int row, int column) {
            store(drawing, row, entry(drawing, row) | 1 << column);
            cells++;
            traceAll();
        }

        void mark(int newGroup, int row, int column) {
            group = newGroup;
            markRow = row;
            markColumn = column;
            traceAll();
        }

        private void traceAll() {
            for (int i = 0; i < outlines.length; i++) {
                Outline outline = outlines[i];
                if (outline != null) {
                    outline.trace(drawing, markRow, markColumn);
                }
            }
        }

        /** Returns null if there is no such number of turns. */
        Outline outlineFor(int turns, boolean isMirrored) {
            int index = isMirrored ? turns + TURNS : turns;
            return index >= 0 && index < outlines.length ? outlines[index] : null;
        }

        boolean canTurn(int turns, boolean hasNap) {
            if (turns == 0) {
                return true;
            }
            return !hasNap && (rule == 'q' || (rule == 'h' && turns == 2));
        }

        boolean canMirror(boolean isFolded) {
            return isPaired && !isFolded;
        }

        /** How many single pieces, or whole pairs, are in the stock. */
        int whole() {
            return isPaired ? Math.min(plain, mirrored) : plain;
        }

        void receive(int morePlain, int moreMirrored) {
            plain += morePlain;
            mirrored += moreMirrored;
            everCut += morePlain + moreMirrored;
        }

        void giveAway(int count) {
            plain -= count;
            if (isPaired) {
                mirrored -= count;
            }
        }
    }

    /** A piece of the marker. */
    private static final class Piece {
        int number;
        Shape shape;
        Outline outline;
        int turns;
        int row;
        int column;
        boolean isMirrored;

        Piece() {
        }

        boolean covers(int clothRow, int clothColumn) {
            return outline != null && outline.hasCell(clothRow - row, clothColumn - column);
        }
    }

    /** The pieces that are laid on the cloth. */
    private static final class Marker {
        /** In the order in which they were laid; those from count on are kept to be used again. */
        private final Piece[] pieces;
        int count;
        private int nextNumber;
        /** The number of the piece that has each cell, row by row, or NONE. */
        private final int[] owners;
        /** The cells of all pieces, a row of bits for each row of the cloth. */
        private final int[] taken;
        /** How many pieces have a mark of each group, and the remainder of the rows of these marks. */
        final int[] members;
        final int[] phases;
        /** The cells that hasNoOverlap has met. */
        private final int[] met;

        Marker() {
            pieces = new Piece[MOST_PIECES];
            for (int i = 0; i < pieces.length; i++) {
                pieces[i] = new Piece();
            }
            owners = new int[ROWS * COLUMNS];
            Arrays.fill(owners, NONE);
            taken = new int[ROWS];
            members = new int[GROUPS];
            phases = new int[GROUPS];
            met = new int[ROWS];
        }

        boolean isFull() {
            return count >= pieces.length;
        }

        private Piece pieceIn(int slot) {
            return slot >= 0 && slot < count && slot < pieces.length ? pieces[slot] : null;
        }

        private int slotOf(int number) {
            for (int slot = 0; slot < count; slot++) {
                Piece piece = pieceIn(slot);
                if (piece != null && piece.number == number) {
                    return slot;
                }
            }
            return NONE;
        }

        /** Returns null if there is no such piece. */
        Piece pieceNumbered(int number) {
            return pieceIn(slotOf(number));
        }

        /** Returns the reason why the piece cannot be laid, or FREE. */
        char obstacle(Cloth cloth, Shape shape, int turns, int row, int column, boolean isMirrored) {
            Outline outline = shape.outlineFor(turns, isMirrored);
            if (shape.cells == 0 || outline == null) {
                return 'e';
            }
            if (!shape.canTurn(turns, cloth.hasNap)) {
                return 't';
            }
            if (isMirrored && !shape.canMirror(cloth.isFolded)) {
                return 'm';
            }
            if (!cloth.reaches(outline, row, column)) {
                return 'o';
            }
            if (meetsAny(cloth.spoiled, outline, row, column)) {
                return 'f';
            }
            if (meetsAny(taken, outline, row, column)) {
                return 'p';
            }
            return stripesMeet(shape.group, cloth.remainder(row + outline.markRow)) ? FREE : 's';
        }

        private static boolean meetsAny(int[] cells, Outline outline, int row, int column) {
            for (int i = 0; i < outline.height; i++) {
                if ((entry(cells, row + i) & entry(outline.rows, i) << column) != 0) {
                    return true;
                }
            }
            return false;
        }

        /** Without stripes all remainders are 0, and without a mark there are no members. */
        private boolean stripesMeet(int group, int remainder) {
            return entry(members, group) == 0 || entry(phases, group) == remainder;
        }

        /** Returns the first place for the piece as one number that putAtSpot takes apart, or NONE. */
        int firstSpot(Cloth cloth, Shape shape, boolean isMirrored) {
            int columns = cloth.openColumns();
            for (int row = 0; row < ROWS; row++) {
                for (int column = 0; column < columns; column++) {
                    for (int turns = 0; turns < TURNS; turns++) {
                        if (obstacle(cloth, shape, turns, row, column, isMirrored) == FREE) {
                            return (row * COLUMNS + column) * TURNS + turns;
                        }
                    }
                }
            }
            return NONE;
        }

        int putAtSpot(Cloth cloth, Shape shape, int spot, boolean isMirrored) {
            int cell = spot / TURNS;
            return put(cloth, shape, spot % TURNS, cell / COLUMNS, cell % COLUMNS, isMirrored);
        }

        /** Lays a piece that nothing hinders and returns its number, or NONE if the marker is full. */
        int put(Cloth cloth, Shape shape, int turns, int row, int column, boolean isMirrored) {
            Outline outline = shape.outlineFor(turns, isMirrored);
            Piece piece = count >= 0 && count < pieces.length ? pieces[count] : null;
            if (piece == null || outline == null) {
                return NONE;
            }
            piece.number = nextNumber;
            piece.shape = shape;
            piece.outline = outline;
            piece.turns = turns;
            piece.row = row;
            piece.column = column;
            piece.isMirrored = isMirrored;
            count++;
            nextNumber++;
            cover(outline, row, column, piece.number);
            join(shape.group, cloth.remainder(row + outline.markRow));
            return piece.number;
        }

        /** Gives the cells of the outline to a piece, or takes them away if the owner is NONE. */
        private void cover(Outline outline, int row, int column, int owner) {
            for (int i = 0; i < outline.height; i++) {
                int bits = entry(outline.rows, i) << column;
                int before = entry(taken, row + i);
                store(taken, row + i, owner == NONE ? before & ~bits : before | bits);
                for (int place = 0; place < COLUMNS; place++) {
                    if (hasBit(bits, place)) {
                        store(owners, (row + i) * COLUMNS + place, owner);
                    }
                }
            }
        }

        /** A shape without a mark has the group NONE, which has no entry. */
        private void join(int group, int remainder) {
            store(members, group, entry(members, group) + 1);
            store(phases, group, remainder);
        }

        private void leave(int group) {
            store(members, group, entry(members, group) - 1);
        }

        void remove(int number) {
            int slot = slotOf(number);
            Piece piece = pieceIn(slot);
            if (piece == null || piece.outline == null || piece.shape == null) {
                return;
            }
            cover(piece.outline, piece.row, piece.column, NONE);
            leave(piece.shape.group);
            moveToEnd(slot);
            count--;
        }

        private void moveToEnd(int slot) {
            for (int i = Math.max(slot, 0); i + 1 < count && i + 1 < pieces.length; i++) {
                Piece piece = pieces[i];
                pieces[i] = pieces[i + 1];
                pieces[i + 1] = piece;
            }
        }

        void empty() {
            count = 0;
            nextNumber = 0;
            Arrays.fill(owners, NONE);
            Arrays.fill(taken, 0);
            Arrays.fill(members, 0);
        }

        int ownerOf(int row, int column) {
            int index = row * COLUMNS + column;
            return index >= 0 && index < owners.length ? owners[index] : NONE;
        }

        int ownerByPieces(int row, int column) {
            for (int slot = 0; slot < count; slot++) {
                Piece piece = pieceIn(slot);
                if (piece != null && piece.covers(row, column)) {
                    return piece.number;
                }
            }
            return NONE;
        }

        boolean holds(Shape shape) {
            return countOf(shape, false) + countOf(shape, true) > 0;
        }

        int countOf(Shape shape, boolean isMirrored) {
            int sum = 0;
            for (int slot = 0; slot < count; slot++) {
                Piece piece = pieceIn(slot);
                if (piece != null && piece.shape == shape && piece.isMirrored == isMirrored) {
                    sum++;
                }
            }
            return sum;
        }

        int rowsUsed() {
            int rows = ROWS;
            while (rows > 0 && entry(taken, rows - 1) == 0) {
                rows--;
            }
            return rows;
        }

        int cellsUsed() {
            int sum = 0;
            for (int slot = 0; slot < count; slot++) {
                Piece piece = pieceIn(slot);
                if (piece != null && piece.shape != null) {
                    sum += piece.shape.cells;
                }
            }
            return sum;
        }

        boolean hasNoOverlap() {
            Arrays.fill(met, 0);
            for (int slot = 0; slot < count; slot++) {
                if (!meetsAnew(pieceIn(slot))) {
                    return false;
                }
            }
            return true;
        }

        private boolean meetsAnew(Piece piece) {
            if (piece == null || piece.outline == null) {
                return false;
            }
            for (int i = 0; i < piece.outline.height; i++) {
                int bits = entry(piece.outline.rows, i) << piece.column;
                int before = entry(met, piece.row + i);
                if ((before & bits) != 0) {
                    return false;
                }
                store(met, piece.row + i, before | bits);
            }
            return true;
        }
    }

    /** A style: how many pieces, or pairs, of each shape a garment takes. */
    private static final class Style {
        final int[] counts;
        int garments;

        Style() {
            counts = new int[MOST_SHAPES];
        }

        boolean hasParts() {
            for (int number = 0; number < counts.length; number++) {
                if (counts[number] > 0) {
                    return true;
                }
            }
            return false;
        }
    }
}
