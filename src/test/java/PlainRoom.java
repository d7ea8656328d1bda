import java.util.ArrayList;
import java.util.HashMap;
import java.util.HashSet;
import java.util.List;
import java.util.Map;
import java.util.NoSuchElementException;
import java.util.Set;
import java.util.TreeMap;

/**
 * A second cutting room, written from the document with the means of the Java library and without regard
 * to speed: sets of cells instead of rows of bits. RandomRunsTest asks both and compares the answers.
 */
public final class PlainRoom {
    record Cell(int row, int column) {
        Cell mirrored() {
            return new Cell(row, 4 - column);
        }

        Cell turned() {
            return new Cell(column, 4 - row);
        }
    }

    static final class Shape {
        char rule;
        boolean paired;
        Set<Cell> cells = new HashSet<>();
        int group = -1;
        Cell mark;
        int[] stock = new int[2];
        boolean wasCut;
    }

    static final class Piece {
        int number;
        Shape shape;
        int turns;
        int row;
        int column;
        boolean mirrored;
        Set<Cell> cells = new HashSet<>();
        int markRow;
    }

    static final class Style {
        Map<Integer, Integer> parts = new TreeMap<>();
        int made;
    }

    private int width = 12;
    private boolean nap;
    private boolean folded;
    private int stripes;
    private final Set<Cell> flaws = new HashSet<>();
    private final List<Shape> shapes = new ArrayList<>();
    private final List<Style> styles = new ArrayList<>();
    private List<Piece> marker = new ArrayList<>();
    private int next;
    private int roll;
    private long cut;

    private static void illegal(boolean isSo) {
        if (isSo) {
            throw new IllegalArgumentException();
        }
    }

    private static void state(boolean isSo) {
        if (isSo) {
            throw new IllegalStateException();
        }
    }

    private static void unsupported(boolean isSo) {
        if (isSo) {
            throw new UnsupportedOperationException();
        }
    }

    private static void noIndex(boolean isSo) {
        if (isSo) {
            throw new IndexOutOfBoundsException();
        }
    }

    private Shape shape(int number) {
        noIndex(number < 0 || number >= shapes.size());
        return shapes.get(number);
    }

    private Style style(int number) {
        noIndex(number < 0 || number >= styles.size());
        return styles.get(number);
    }

    public int setCloth(int width, boolean hasNap, int stripes) {
        illegal(width < 2 || width > 12 || stripes < 0 || stripes > 6);
        state(!marker.isEmpty() || !flaws.isEmpty());
        int before = this.width;
        this.width = width;
        nap = hasNap;
        this.stripes = stripes;
        return before;
    }

    public boolean fold(boolean isFolded) {
        state(!marker.isEmpty());
        boolean before = folded;
        folded = isFolded;
        return before;
    }

    private boolean isFlaw(Cell cell) {
        return flaws.contains(cell) || folded && flaws.contains(new Cell(cell.row, width - 1 - cell.column));
    }

    public int addFlaw(int row, int column) {
        illegal(row < 0 || row >= 60 || column < 0 || column >= width);
        Cell told = new Cell(row, column);
        Cell under = new Cell(row, width - 1 - column);
        for (Piece piece : marker) {
            unsupported(piece.cells.contains(told) || folded && piece.cells.contains(under));
        }
        state(flaws.size() == 12 && !flaws.contains(told));
        flaws.add(told);
        return flaws.size();
    }

    public int clearFlaws() {
        int before = flaws.size();
        flaws.clear();
        return before;
    }

    public int addShape(char rule, boolean isPaired) {
        illegal("nhq".indexOf(rule) < 0);
        state(shapes.size() == 8);
        Shape shape = new Shape();
        shape.rule = rule;
        shape.paired = isPaired;
        shapes.add(shape);
        return shapes.size() - 1;
    }

    private boolean isInMarker(Shape shape) {
        return marker.stream().anyMatch(piece -> piece.shape == shape);
    }

    public int addCell(int shape, int row, int column) {
        Shape s = shape(shape);
        illegal(row < 0 || row > 4 || column < 0 || column > 4);
        unsupported(s.cells.contains(new Cell(row, column)));
        state(isInMarker(s) || s.wasCut);
        s.cells.add(new Cell(row, column));
        return s.cells.size();
    }

    public int setMark(int shape, int group, int row, int column) {
        Shape s = shape(shape);
        illegal(group < -1 || group > 3 || row < 0 || row > 4 || column < 0 || column > 4);
        state(isInMarker(s));
        int before = s.group;
        s.group = group;
        s.mark = new Cell(row, column);
        return before;
    }

    public int cellsOf(int shape) {
        return shape(shape).cells.size();
    }

    private static Cell moved(Cell cell, int turns, boolean mirrored) {
        Cell result = mirrored ? cell.mirrored() : cell;
        for (int i = 0; i < turns; i++) {
            result = result.turned();
        }
        return result;
    }

    private static Piece piece(Shape shape, int turns, int row, int column, boolean mirrored) {
        Piece piece = new Piece();
        piece.shape = shape;
        piece.turns = turns;
        piece.row = row;
        piece.column = column;
        piece.mirrored = mirrored;
        int leastRow = 99;
        int leastColumn = 99;
        for (Cell cell : shape.cells) {
            Cell to = moved(cell, turns, mirrored);
            leastRow = Math.min(leastRow, to.row);
            leastColumn = Math.min(leastColumn, to.column);
        }
        for (Cell cell : shape.cells) {
            Cell to = moved(cell, turns, mirrored);
            piece.cells.add(new Cell(to.row - leastRow + row, to.column - leastColumn + column));
        }
        if (shape.group >= 0) {
            piece.markRow = moved(shape.mark, turns, mirrored).row - leastRow + row;
        }
        return piece;
    }

    private char reasonFor(Shape shape, int turns, int row, int column, boolean mirrored) {
        if (shape.cells.isEmpty()) {
            return 'e';
        }
        boolean mayTurn = turns == 0 || !nap && (shape.rule == 'q' || shape.rule == 'h' && turns == 2);
        if (!mayTurn) {
            return 't';
        }
        if (mirrored && (!shape.paired || folded)) {
            return 'm';
        }
        if (row < 0 || row > 59 || column < 0 || column > 11) {
            return 'o';
        }
        Piece piece = piece(shape, turns, row, column, mirrored);
        int columns = folded ? width / 2 : width;
        for (Cell cell : piece.cells) {
            if (cell.row >= 60 || cell.column >= columns) {
                return 'o';
            }
        }
        if (piece.cells.stream().anyMatch(this::isFlaw)) {
            return 'f';
        }
        for (Piece other : marker) {
            if (piece.cells.stream().anyMatch(other.cells::contains)) {
                return 'p';
            }
        }
        if (stripes >= 2 && shape.group >= 0) {
            for (Piece other : marker) {
                if (other.shape.group == shape.group && (other.markRow - piece.markRow) % stripes != 0) {
                    return 's';
                }
            }
        }
        return '-';
    }

    public char reason(int shape, int turns, int row, int column, boolean isMirrored) {
        Shape s = shape(shape);
        illegal(turns < 0 || turns > 3);
        return reasonFor(s, turns, row, column, isMirrored);
    }

    private int put(Piece piece) {
        piece.number = next++;
        marker.add(piece);
        return piece.number;
    }

    public int lay(int shape, int turns, int row, int column, boolean isMirrored) {
        char reason = reason(shape, turns, row, column, isMirrored);
        unsupported(reason != '-');
        state(marker.size() == 40);
        return put(piece(shapes.get(shape), turns, row, column, isMirrored));
    }

    private Piece nested(Shape shape, boolean mirrored) {
        for (int row = 0; row < 60; row++) {
            for (int column = 0; column < width; column++) {
                for (int turns = 0; turns < 4; turns++) {
                    if (reasonFor(shape, turns, row, column, mirrored) == '-') {
                        return piece(shape, turns, row, column, mirrored);
                    }
                }
            }
        }
        return null;
    }

    public int nest(int shape, boolean isMirrored) {
        Piece piece = nested(shape(shape), isMirrored);
        if (piece == null) {
            throw new NoSuchElementException();
        }
        state(marker.size() == 40);
        return put(piece);
    }

    private Piece numbered(int number) {
        return marker.stream().filter(piece -> piece.number == number).findFirst()
                .orElseThrow(NoSuchElementException::new);
    }

    public int takeOff(int piece) {
        marker.remove(numbered(piece));
        return length();
    }

    public int clear() {
        int before = marker.size();
        marker.clear();
        next = 0;
        return before;
    }

    public int inMarker() {
        return marker.size();
    }

    public int rowOf(int piece) {
        return numbered(piece).row;
    }

    public int columnOf(int piece) {
        return numbered(piece).column;
    }

    public int turnsOf(int piece) {
        return numbered(piece).turns;
    }

    public int pieceAt(int row, int column) {
        illegal(row < 0 || row > 59 || column < 0 || column > 11);
        for (Piece piece : marker) {
            if (piece.cells.contains(new Cell(row, column))) {
                return piece.number;
            }
        }
        throw new IllegalStateException();
    }

    public int pieceByPieces(int row, int column) {
        return pieceAt(row, column);
    }

    public int length() {
        return marker.stream().flatMap(piece -> piece.cells.stream()).mapToInt(cell -> cell.row + 1).max().orElse(0);
    }

    public int used() {
        return marker.stream().mapToInt(piece -> piece.cells.size()).sum();
    }

    public int phase(int group) {
        illegal(group < 0 || group > 3);
        state(stripes < 2);
        for (Piece piece : marker) {
            if (piece.shape.group == group) {
                return Math.floorMod(piece.markRow, stripes);
            }
        }
        throw new IllegalStateException();
    }

    public int addStyle() {
        state(styles.size() == 4);
        styles.add(new Style());
        return styles.size() - 1;
    }

    public int addPart(int style, int shape, int count) {
        Style s = style(style);
        shape(shape);
        illegal(count < 1 || count > 4);
        unsupported(s.parts.containsKey(shape) || s.made > 0);
        s.parts.put(shape, count);
        return piecesFor(style);
    }

    public int piecesFor(int style) {
        int sum = 0;
        for (Map.Entry<Integer, Integer> part : style(style).parts.entrySet()) {
            sum += shapes.get(part.getKey()).paired ? 2 * part.getValue() : part.getValue();
        }
        return sum;
    }

    private record Wanted(Shape shape, boolean mirrored) {
    }

    public int nestedLength(int style) {
        List<Wanted> wanted = new ArrayList<>();
        for (Map.Entry<Integer, Integer> part : style(style).parts.entrySet()) {
            Shape shape = shapes.get(part.getKey());
            int count = part.getValue();
            int plain = folded && !shape.paired ? (count + 1) / 2 : count;
            for (int i = 0; i < plain; i++) {
                wanted.add(new Wanted(shape, false));
            }
            for (int i = 0; i < count && shape.paired && !folded; i++) {
                wanted.add(new Wanted(shape, true));
            }
        }
        unsupported(wanted.isEmpty() || wanted.size() > 4);
        List<Piece> kept = marker;
        marker = new ArrayList<>();
        int best = leastLength(wanted);
        marker = kept;
        state(best > 60);
        return best;
    }

    private int leastLength(List<Wanted> wanted) {
        if (wanted.isEmpty()) {
            return length();
        }
        int best = 99;
        for (int i = 0; i < wanted.size(); i++) {
            Piece piece = nested(wanted.get(i).shape, wanted.get(i).mirrored);
            if (piece != null) {
                List<Wanted> rest = new ArrayList<>(wanted);
                rest.remove(i);
                marker.add(piece);
                best = Math.min(best, leastLength(rest));
                marker.remove(piece);
            }
        }
        return best;
    }

    public int nestedByTrying(int style) {
        return nestedLength(style);
    }

    public int addCloth(int rows) {
        illegal(rows < 1 || rows > 9999 || roll + rows > 999999);
        roll += rows;
        return roll;
    }

    public int roll() {
        return roll;
    }

    /** The pieces that one ply gives, by shape and sort. */
    private Map<Shape, int[]> ply() {
        Map<Shape, int[]> ply = new HashMap<>();
        for (Piece piece : marker) {
            int[] sorts = ply.computeIfAbsent(piece.shape, shape -> new int[2]);
            if (!folded) {
                sorts[piece.mirrored ? 1 : 0]++;
            } else if (piece.shape.paired) {
                sorts[0]++;
                sorts[1]++;
            } else {
                sorts[0] += 2;
            }
        }
        return ply;
    }

    public int spread(int plies) {
        illegal(plies < 1 || plies > 50);
        unsupported(marker.isEmpty());
        int rows = length() * plies * (folded ? 2 : 1);
        state(rows > roll);
        Map<Shape, int[]> ply = ply();
        ply.forEach((shape, sorts) -> {
            state(shape.stock[0] + plies * sorts[0] > 9999 || shape.stock[1] + plies * sorts[1] > 9999);
        });
        roll -= rows;
        ply.forEach((shape, sorts) -> {
            shape.stock[0] += plies * sorts[0];
            shape.stock[1] += plies * sorts[1];
            shape.wasCut = true;
            cut += (long) plies * (sorts[0] + sorts[1]);
        });
        return roll;
    }

    public int pieces(int shape, boolean isMirrored) {
        Shape s = shape(shape);
        unsupported(!s.paired && isMirrored);
        return s.stock[isMirrored ? 1 : 0];
    }

    public int canMake(int style) {
        Style s = style(style);
        unsupported(s.parts.isEmpty());
        int garments = 0;
        while (isEnough(s, garments + 1)) {
            garments++;
        }
        return garments;
    }

    private boolean isEnough(Style style, int garments) {
        for (Map.Entry<Integer, Integer> part : style.parts.entrySet()) {
            Shape shape = shapes.get(part.getKey());
            int needed = part.getValue() * garments;
            if (shape.stock[0] < needed || shape.paired && shape.stock[1] < needed) {
                return false;
            }
        }
        return true;
    }

    public int canMakeByTaking(int style) {
        return canMake(style);
    }

    public int make(int style, int garments) {
        Style s = style(style);
        illegal(garments < 1 || garments > 99);
        unsupported(s.parts.isEmpty());
        state(!isEnough(s, garments));
        s.parts.forEach((number, count) -> {
            Shape shape = shapes.get(number);
            shape.stock[0] -= count * garments;
            shape.stock[1] -= shape.paired ? count * garments : 0;
        });
        s.made += garments;
        return s.made;
    }

    public int made(int style) {
        return style(style).made;
    }

    public int pliesFor(int style, int garments) {
        Style s = style(style);
        illegal(garments < 1 || garments > 99);
        unsupported(s.parts.isEmpty());
        Map<Shape, int[]> ply = ply();
        for (int plies = 0; plies <= 400; plies++) {
            boolean isEnough = true;
            for (Map.Entry<Integer, Integer> part : s.parts.entrySet()) {
                Shape shape = shapes.get(part.getKey());
                int[] sorts = ply.getOrDefault(shape, new int[2]);
                int needed = part.getValue() * garments;
                isEnough &= shape.stock[0] + plies * sorts[0] >= needed;
                isEnough &= !shape.paired || shape.stock[1] + plies * sorts[1] >= needed;
            }
            if (isEnough) {
                return plies;
            }
        }
        throw new IllegalStateException();
    }

    public long cut() {
        return cut;
    }

    public float density() {
        if (marker.isEmpty()) {
            throw new ArithmeticException();
        }
        return (float) used() / (float) (length() * (folded ? width / 2 : width));
    }

    public double meanCells() {
        if (marker.isEmpty()) {
            throw new ArithmeticException();
        }
        return (double) used() / (double) marker.size();
    }

    public boolean isSound() {
        Set<Cell> seen = new HashSet<>();
        long stock = 0;
        for (Piece piece : marker) {
            for (Cell cell : piece.cells) {
                if (!seen.add(cell)) {
                    return false;
                }
            }
        }
        for (Shape shape : shapes) {
            stock += shape.stock[0] + shape.stock[1];
        }
        for (int i = 0; i < styles.size(); i++) {
            stock += (long) styles.get(i).made * piecesFor(i);
        }
        return stock == cut;
    }
}
