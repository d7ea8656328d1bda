import java.util.ArrayList;
import java.util.List;

/** What the tests of the boundary cases share: rooms that are filled up to a limit, and numbers outside a range. */
final class Rooms {
    static final Class<IllegalArgumentException> ARGUMENT = IllegalArgumentException.class;
    static final Class<IllegalStateException> STATE = IllegalStateException.class;
    static final Class<UnsupportedOperationException> UNSUPPORTED = UnsupportedOperationException.class;
    static final Class<IndexOutOfBoundsException> INDEX = IndexOutOfBoundsException.class;
    static final Class<java.util.NoSuchElementException> ELEMENT = java.util.NoSuchElementException.class;
    static final Class<ArithmeticException> ARITHMETIC = ArithmeticException.class;

    static final int LOW = Integer.MIN_VALUE;
    static final int HIGH = Integer.MAX_VALUE;

    /** The most pieces of the marker, rows of cloth that one call adds, and pieces of a sort in the stock. */
    static final int MARKER = 40;
    static final int ADDED = 9999;
    static final int STOCK = 9999;
    static final int ROLL = 999999;

    private Rooms() {
    }

    /** Adds a shape with the cells told as pairs of digits, such as "00 10 11"; "" tells none. */
    static int shape(CuttingRoom room, char rule, boolean isPaired, String cells) {
        int shape = room.addShape(rule, isPaired);
        for (int i = 0; i + 1 < cells.length(); i += 3) {
            room.addCell(shape, cells.charAt(i) - '0', cells.charAt(i + 1) - '0');
        }
        return shape;
    }

    /** The cells of a shape that fills rows from 0 and columns from 0. */
    static String block(int rows, int columns) {
        StringBuilder cells = new StringBuilder();
        for (int row = 0; row < rows; row++) {
            for (int column = 0; column < columns; column++) {
                cells.append(row).append(column).append(' ');
            }
        }
        return cells.toString();
    }

    /**
     * Numbers outside a range: beside it, at the ends of int, and such as would fall into it if their upper bits
     * were lost.
     */
    static int[] outside(int least, int most) {
        List<Integer> all = new ArrayList<>(List.of(least - 1, most + 1, LOW, LOW + 1, HIGH - 1, HIGH));
        for (int bits : new int[] {3, 4, 5, 6, 7, 8, 16, 24, 31}) {
            all.add(least + (1 << bits));
            all.add(most + (1 << bits));
            all.add(least - (1 << bits));
            all.add(most - (1 << bits));
        }
        return all.stream().filter(number -> number < least || number > most).distinct()
                .mapToInt(Integer::intValue).toArray();
    }

    static void nest(CuttingRoom room, int shape, boolean isMirrored, int count) {
        for (int i = 0; i < count; i++) {
            room.nest(shape, isMirrored);
        }
    }

    /** Adds cloth to the roll with as few calls as can be. */
    static void addCloth(CuttingRoom room, int rows) {
        for (int left = rows; left > 0; left -= ADDED) {
            room.addCloth(Math.min(left, ADDED));
        }
    }

    /** Cuts so many more pieces of a shape, 40 of which find room in the marker; the marker is empty then. */
    static void cut(CuttingRoom room, int shape, boolean isMirrored, int pieces) {
        room.clear();
        int perPly = Math.min(pieces, MARKER);
        nest(room, shape, isMirrored, perPly);
        for (int plies = pieces / perPly; plies > 0; plies -= 50) {
            room.spread(Math.min(plies, 50));
        }
        int rest = pieces % perPly;
        room.clear();
        if (rest > 0) {
            nest(room, shape, isMirrored, rest);
            room.spread(1);
            room.clear();
        }
    }

    /** The outcome of a call as a text: its answer, or the very class of its exception. */
    static String outcome(Check.Call call) {
        try {
            return String.valueOf(call.answer());
        } catch (RuntimeException e) {
            return "throws." + e.getClass().getSimpleName();
        }
    }
}
