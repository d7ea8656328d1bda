import java.lang.reflect.Method;
import java.util.ArrayList;
import java.util.List;
import java.util.Map;
import java.util.Set;
import java.util.TreeMap;
import java.util.TreeSet;

/**
 * "A method that throws an exception changes nothing", and "all other calls ask": two new rooms are brought into the
 * same state, one of them gets the call, and then both must give the same answers. Each way to look at them begins
 * with new rooms, so that no room gets more than 512 calls.
 */
public final class RefusalTest {
    private static final Check CHECK = new Check("RefusalTest");
    private static final Set<String> REFUSED = new TreeSet<>();

    /** Calls on a room, whose answers are written down, if they matter. */
    interface Calls {
        void on(CuttingRoom room, List<String> answers);
    }

    private static final Map<String, Calls> STATES = new TreeMap<>();
    private static final Map<String, Calls> LOOKS = new TreeMap<>();

    private RefusalTest() {
    }

    public static void main(String[] args) {
        STATES.put("new", (room, answers) -> { });
        STATES.put("open", (room, answers) -> fill(room, false));
        STATES.put("folded", (room, answers) -> fill(room, true));
        STATES.put("full", (room, answers) -> fillToTheLimits(room));
        STATES.put("full roll", (room, answers) -> Rooms.addCloth(room, Rooms.ROLL));
        STATES.put("nap", (room, answers) -> fillWithNap(room));
        LOOKS.put("numbers", RefusalTest::askForNumbers);
        LOOKS.put("places", RefusalTest::askForPlaces);
        LOOKS.put("cells", RefusalTest::askForCells);
        LOOKS.put("later calls", RefusalTest::changeAll);
        LOOKS.put("later calls in another order", RefusalTest::changeAllElsewhere);
        clothIsRefused();
        shapesAreRefused();
        layingIsRefused();
        markerIsRefused();
        stylesAreRefused();
        cuttingIsRefused();
        garmentsAreRefused();
        askingChangesNothing();
        eachExceptionWasSeen();
        CHECK.end();
    }

    /** Four shapes, one of them without cells, a marker with gaps, stock, styles, garments; the cloth has stripes. */
    private static void fill(CuttingRoom room, boolean isFolded) {
        room.setCloth(9, false, 3);
        room.fold(isFolded);
        Rooms.shape(room, 'q', false, "00 10 11");
        Rooms.shape(room, 'h', true, "00 01");
        Rooms.shape(room, 'n', false, "");
        Rooms.shape(room, 'n', true, "22");
        room.setMark(0, 1, 0, 0);
        room.setMark(1, 2, 4, 4);
        room.addFlaw(0, 3);
        room.addFlaw(9, 0);
        room.addCloth(60);
        room.nest(0, false);
        room.nest(1, false);
        room.nest(1, !isFolded);
        room.nest(3, false);
        room.nest(3, !isFolded);
        room.takeOff(1);
        room.nest(1, false);
        for (int style = 0; style < 3; style++) {
            room.addStyle();
        }
        room.addPart(0, 1, 1);
        room.addPart(0, 0, 2);
        room.addPart(1, 3, 4);
        room.spread(4);
        room.make(0, 1);
    }

    /** As many shapes, styles, flaws, pieces in the marker and pieces in the stock as there can be. */
    private static void fillToTheLimits(CuttingRoom room) {
        Rooms.shape(room, 'n', false, "00");
        Rooms.shape(room, 'n', true, "00");
        for (int shape = 2; shape < 8; shape++) {
            room.addShape('q', shape % 2 == 0);
        }
        room.addCloth(9999);
        Rooms.cut(room, 0, false, Rooms.STOCK);
        for (int style = 0; style < 4; style++) {
            room.addStyle();
        }
        room.addPart(0, 0, 1);
        room.addPart(1, 1, 2);
        for (int flaw = 0; flaw < 12; flaw++) {
            room.addFlaw(flaw + 20, flaw);
        }
        room.nest(0, false);
        Rooms.nest(room, 1, false, Rooms.MARKER - 1);
    }

    private static void fillWithNap(CuttingRoom room) {
        room.setCloth(5, true, 2);
        Rooms.shape(room, 'q', true, "00 01");
        room.addStyle();
        room.addPart(0, 0, 1);
        room.nest(0, true);
        room.nest(0, false);
        room.clear();
        room.addCloth(3);
    }

    private static void askForNumbers(CuttingRoom room, List<String> answers) {
        for (int i = -1; i < 9; i++) {
            int number = i;
            ask(answers, "cellsOf", () -> room.cellsOf(number));
            ask(answers, "pieces", () -> room.pieces(number, false));
            ask(answers, "mirrored", () -> room.pieces(number, true));
        }
        for (int i = -1; i < 5; i++) {
            int number = i;
            ask(answers, "piecesFor", () -> room.piecesFor(number));
            ask(answers, "canMake", () -> room.canMake(number));
            ask(answers, "canMakeByTaking", () -> room.canMakeByTaking(number));
            ask(answers, "made", () -> room.made(number));
            ask(answers, "pliesFor", () -> room.pliesFor(number, 1));
            ask(answers, "pliesFor", () -> room.pliesFor(number, 99));
            ask(answers, "nestedLength", () -> room.nestedLength(number));
            ask(answers, "nestedByTrying", () -> room.nestedByTrying(number));
            ask(answers, "phase", () -> room.phase(number));
        }
        askForTotals(room, answers);
    }

    private static void askForTotals(CuttingRoom room, List<String> answers) {
        ask(answers, "inMarker", () -> room.inMarker());
        ask(answers, "length", () -> room.length());
        ask(answers, "used", () -> room.used());
        ask(answers, "roll", () -> room.roll());
        ask(answers, "cut", () -> room.cut());
        ask(answers, "density", () -> room.density());
        ask(answers, "meanCells", () -> room.meanCells());
        ask(answers, "isSound", () -> room.isSound());
    }

    private static void askForPlaces(CuttingRoom room, List<String> answers) {
        int[][] places = {{0, 0}, {0, 7}, {1, 3}, {2, 8}, {4, 4}, {9, 0}, {10, 1}, {30, 1}, {59, 1}};
        for (int i = 0; i < 4 * 4 * 2; i++) {
            int shape = i / 8;
            int turns = i / 2 % 4;
            boolean isMirrored = i % 2 == 1;
            for (int[] place : turns == 0 ? places : new int[][] {{20, 0}}) {
                ask(answers, "reason", () -> room.reason(shape, turns, place[0], place[1], isMirrored));
            }
        }
        for (int piece : new int[] {0, 1, 2, 3, 4, 5, 6, 7, 38, 39, 40, 41}) {
            ask(answers, "rowOf", () -> room.rowOf(piece));
            ask(answers, "columnOf", () -> room.columnOf(piece));
            ask(answers, "turnsOf", () -> room.turnsOf(piece));
        }
    }

    private static void askForCells(CuttingRoom room, List<String> answers) {
        for (int i = 0; i < 60; i++) {
            int row = i / 12;
            int column = i % 12;
            ask(answers, "pieceAt", () -> room.pieceAt(row, column));
            ask(answers, "pieceByPieces", () -> room.pieceByPieces(row, column));
        }
    }

    /** Calls whose answers tell what cannot be asked for: numbers that come next, marks, flaws, the cloth. */
    private static void changeAll(CuttingRoom room, List<String> answers) {
        ask(answers, "nest", () -> room.nest(0, false));
        ask(answers, "lay", () -> room.lay(3, 0, 30, 1, false));
        ask(answers, "addCloth", () -> room.addCloth(200));
        ask(answers, "spread", () -> room.spread(2));
        ask(answers, "make", () -> room.make(0, 1));
        ask(answers, "addFlaw", () -> room.addFlaw(58, 1));
        ask(answers, "addShape", () -> room.addShape('q', true));
        ask(answers, "addStyle", () -> room.addStyle());
        for (int i = 0; i < 4; i++) {
            int style = i;
            ask(answers, "addPart", () -> room.addPart(style, 0, 1));
            ask(answers, "addPart", () -> room.addPart(style, 1, 1));
            ask(answers, "addPart", () -> room.addPart(style, 3, 1));
        }
        ask(answers, "takeOff", () -> room.takeOff(0));
        ask(answers, "clear", () -> room.clear());
        for (int i = 0; i < 8; i++) {
            int shape = i;
            ask(answers, "addCell", () -> room.addCell(shape, 0, 0));
            ask(answers, "addCell", () -> room.addCell(shape, 4, 3));
            ask(answers, "setMark", () -> room.setMark(shape, -1, 0, 0));
        }
        ask(answers, "clearFlaws", () -> room.clearFlaws());
        ask(answers, "fold", () -> room.fold(false));
        ask(answers, "setCloth", () -> room.setCloth(12, false, 0));
        ask(answers, "nest", () -> room.nest(0, false));
        askForTotals(room, answers);
    }

    /** Marks, stripes and the nap show in where marked pieces can lie; the limits, in what can still be added. */
    private static void changeAllElsewhere(CuttingRoom room, List<String> answers) {
        ask(answers, "clear", () -> room.clear());
        ask(answers, "addFlaw", () -> room.addFlaw(0, 4));
        for (int i = 0; i < 4; i++) {
            int shape = i;
            ask(answers, "lay", () -> room.lay(shape, 0, 1, 0, false));
            for (int row = 2; row < 9; row++) {
                int asked = row;
                ask(answers, "reason", () -> room.reason(shape, 0, asked, 2, false));
            }
            ask(answers, "nest", () -> room.nest(shape, false));
            ask(answers, "nest", () -> room.nest(shape, true));
            ask(answers, "phase", () -> room.phase(shape));
        }
        for (int i = 0; i < 12; i++) {
            int column = i;
            ask(answers, "addFlaw", () -> room.addFlaw(50, column));
        }
        ask(answers, "spread", () -> room.spread(1));
        ask(answers, "clear", () -> room.clear());
        ask(answers, "clearFlaws", () -> room.clearFlaws());
        ask(answers, "setCloth", () -> room.setCloth(4, false, 2));
        ask(answers, "fold", () -> room.fold(true));
        for (int i = 0; i < 8; i++) {
            int shape = i;
            ask(answers, "nest", () -> room.nest(shape, false));
            ask(answers, "addShape", () -> room.addShape('h', false));
            ask(answers, "addStyle", () -> room.addStyle());
        }
        askForNumbers(room, answers);
    }

    private static void ask(List<String> answers, String what, Check.Call call) {
        answers.add(what + " " + Rooms.outcome(call));
    }

    /** The call is due to throw in this state, and to leave it as it is. */
    private static void refused(String state, String call, Class<? extends RuntimeException> want, Check.CallOn made) {
        REFUSED.add(call.substring(0, call.indexOf(' ')) + " " + want.getSimpleName());
        String what = state + " room, " + call;
        CuttingRoom first = new CuttingRoom();
        STATES.get(state).on(first, new ArrayList<>());
        CHECK.dueThrow(what, want, () -> made.answer(first));
        unchanged(what, state, (room, answers) -> Rooms.outcome(() -> made.answer(room)));
    }

    /** Compares a room with these calls with one without them, for each look at both. */
    private static void unchanged(String what, String state, Calls calls) {
        for (Map.Entry<String, Calls> look : LOOKS.entrySet()) {
            List<String> want = new ArrayList<>();
            CuttingRoom without = new CuttingRoom();
            STATES.get(state).on(without, new ArrayList<>());
            look.getValue().on(without, want);
            List<String> got = new ArrayList<>();
            CuttingRoom with = new CuttingRoom();
            STATES.get(state).on(with, new ArrayList<>());
            calls.on(with, new ArrayList<>());
            look.getValue().on(with, got);
            dueAnswers(what + ", then " + look.getKey(), want, got);
        }
    }

    /** Tells the first answer that is not as due. */
    private static void dueAnswers(String what, List<String> want, List<String> got) {
        int same = 0;
        while (same < want.size() - 1 && want.get(same).equals(got.get(same))) {
            same++;
        }
        CHECK.due(what + ", call " + (same + 1) + " of " + want.size(), want.get(same), got.get(same));
    }

    private static void clothIsRefused() {
        refused("new", "setCloth (width)", Rooms.ARGUMENT, room -> room.setCloth(13, true, 3));
        refused("new", "setCloth (stripes)", Rooms.ARGUMENT, room -> room.setCloth(4, true, 7));
        refused("nap", "setCloth (width)", Rooms.ARGUMENT, room -> room.setCloth(1, false, 3));
        refused("nap", "setCloth (stripes)", Rooms.ARGUMENT, room -> room.setCloth(4, false, -1));
        for (String state : List.of("open", "folded", "full")) {
            refused(state, "setCloth (pieces)", Rooms.STATE, room -> room.setCloth(3, true, 5));
            refused(state, "fold (pieces)", Rooms.STATE, room -> room.fold(true));
            refused(state, "fold (pieces, open)", Rooms.STATE, room -> room.fold(false));
            refused(state, "addFlaw (row)", Rooms.ARGUMENT, room -> room.addFlaw(60, 0));
            refused(state, "addFlaw (column)", Rooms.ARGUMENT, room -> room.addFlaw(0, 12));
            refused(state, "addFlaw (piece)", Rooms.UNSUPPORTED, room -> room.addFlaw(0, 0));
        }
        refused("folded", "addFlaw (over a piece)", Rooms.UNSUPPORTED, room -> room.addFlaw(1, 8));
        refused("full", "addFlaw (12 flaws)", Rooms.STATE, room -> room.addFlaw(58, 1));
    }

    private static void shapesAreRefused() {
        for (String state : List.of("new", "open", "folded", "full")) {
            refused(state, "addShape (rule)", Rooms.ARGUMENT, room -> room.addShape('r', true));
            refused(state, "addCell (shape)", Rooms.INDEX, room -> room.addCell(8, 0, 0));
            refused(state, "setMark (shape)", Rooms.INDEX, room -> room.setMark(-1, 0, 0, 0));
            refused(state, "cellsOf (shape)", Rooms.INDEX, room -> room.cellsOf(8));
        }
        refused("full", "addShape (8 shapes)", Rooms.STATE, room -> room.addShape('q', true));
        for (String state : List.of("open", "folded")) {
            refused(state, "addCell (row)", Rooms.ARGUMENT, room -> room.addCell(2, 5, 0));
            refused(state, "addCell (column)", Rooms.ARGUMENT, room -> room.addCell(2, 0, -1));
            refused(state, "addCell (twice)", Rooms.UNSUPPORTED, room -> room.addCell(1, 0, 1));
            refused(state, "addCell (piece)", Rooms.STATE, room -> room.addCell(1, 4, 4));
            refused(state, "setMark (group)", Rooms.ARGUMENT, room -> room.setMark(2, 4, 3, 3));
            refused(state, "setMark (row)", Rooms.ARGUMENT, room -> room.setMark(2, 3, 5, 3));
            refused(state, "setMark (column, no mark)", Rooms.ARGUMENT, room -> room.setMark(2, -1, 3, 5));
            refused(state, "setMark (piece)", Rooms.STATE, room -> room.setMark(1, 0, 1, 1));
            refused(state, "setMark (piece, no mark)", Rooms.STATE, room -> room.setMark(0, -1, 1, 1));
        }
    }

    private static void layingIsRefused() {
        for (String state : List.of("new", "open", "folded", "full")) {
            refused(state, "lay (shape)", Rooms.INDEX, room -> room.lay(8, 0, 0, 0, false));
            refused(state, "reason (shape)", Rooms.INDEX, room -> room.reason(-1, 0, 0, 0, false));
            refused(state, "nest (shape)", Rooms.INDEX, room -> room.nest(8, true));
        }
        for (String state : List.of("open", "folded")) {
            refused(state, "lay (turns)", Rooms.ARGUMENT, room -> room.lay(0, 4, 12, 0, false));
            refused(state, "reason (turns)", Rooms.ARGUMENT, room -> room.reason(0, -1, 12, 0, false));
            refused(state, "lay ('e')", Rooms.UNSUPPORTED, room -> room.lay(2, 0, 12, 0, false));
            refused(state, "lay ('t')", Rooms.UNSUPPORTED, room -> room.lay(1, 1, 12, 0, false));
            refused(state, "lay ('m')", Rooms.UNSUPPORTED, room -> room.lay(0, 0, 12, 0, true));
            refused(state, "lay ('o')", Rooms.UNSUPPORTED, room -> room.lay(0, 0, 59, 0, false));
            refused(state, "lay ('f')", Rooms.UNSUPPORTED, room -> room.lay(3, 0, 9, 0, false));
            refused(state, "lay ('p')", Rooms.UNSUPPORTED, room -> room.lay(3, 0, 1, 1, false));
            refused(state, "lay ('s')", Rooms.UNSUPPORTED, room -> room.lay(0, 0, 13, 0, false));
            refused(state, "nest (no cells)", Rooms.ELEMENT, room -> room.nest(2, false));
            refused(state, "nest (mirrored)", Rooms.ELEMENT, room -> room.nest(0, true));
        }
        refused("folded", "nest (mirrored, folded)", Rooms.ELEMENT, room -> room.nest(3, true));
        refused("full", "lay (40 pieces)", Rooms.STATE, room -> room.lay(0, 0, 50, 0, false));
        refused("full", "nest (40 pieces)", Rooms.STATE, room -> room.nest(1, true));
    }

    private static void markerIsRefused() {
        for (String state : List.of("new", "open", "folded", "full")) {
            for (int piece : new int[] {-1, state.equals("full") ? 40 : 1, Rooms.HIGH}) {
                refused(state, "takeOff (piece)", Rooms.ELEMENT, room -> room.takeOff(piece));
                refused(state, "rowOf (piece)", Rooms.ELEMENT, room -> room.rowOf(piece));
                refused(state, "columnOf (piece)", Rooms.ELEMENT, room -> room.columnOf(piece));
                refused(state, "turnsOf (piece)", Rooms.ELEMENT, room -> room.turnsOf(piece));
            }
            refused(state, "pieceAt (row)", Rooms.ARGUMENT, room -> room.pieceAt(60, 0));
            refused(state, "pieceByPieces (column)", Rooms.ARGUMENT, room -> room.pieceByPieces(0, 12));
            refused(state, "pieceAt (none)", Rooms.STATE, room -> room.pieceAt(59, 11));
            refused(state, "pieceByPieces (none)", Rooms.STATE, room -> room.pieceByPieces(59, 11));
            refused(state, "phase (group)", Rooms.ARGUMENT, room -> room.phase(4));
            refused(state, "phase (none)", Rooms.STATE, room -> room.phase(0));
        }
    }

    private static void stylesAreRefused() {
        refused("full", "addStyle (4 styles)", Rooms.STATE, room -> room.addStyle());
        for (String state : List.of("new", "open", "folded", "full")) {
            refused(state, "addPart (style)", Rooms.INDEX, room -> room.addPart(4, 0, 1));
            refused(state, "addPart (shape)", Rooms.INDEX, room -> room.addPart(2, 8, 1));
            refused(state, "piecesFor (style)", Rooms.INDEX, room -> room.piecesFor(-1));
            refused(state, "nestedLength (style)", Rooms.INDEX, room -> room.nestedLength(4));
            refused(state, "nestedByTrying (style)", Rooms.INDEX, room -> room.nestedByTrying(4));
        }
        for (String state : List.of("open", "folded", "full")) {
            refused(state, "addPart (count 0)", Rooms.ARGUMENT, room -> room.addPart(2, 0, 0));
            refused(state, "addPart (count 5)", Rooms.ARGUMENT, room -> room.addPart(2, 0, 5));
            refused(state, "nestedLength (none)", Rooms.UNSUPPORTED, room -> room.nestedLength(2));
            refused(state, "nestedByTrying (none)", Rooms.UNSUPPORTED, room -> room.nestedByTrying(2));
        }
        for (String state : List.of("open", "folded")) {
            refused(state, "addPart (twice)", Rooms.UNSUPPORTED, room -> room.addPart(1, 3, 1));
            refused(state, "addPart (a garment)", Rooms.UNSUPPORTED, room -> room.addPart(0, 3, 1));
        }
        refused("open", "nestedLength (8 pieces)", Rooms.UNSUPPORTED, room -> room.nestedLength(1));
        refused("open", "nestedByTrying (8 pieces)", Rooms.UNSUPPORTED, room -> room.nestedByTrying(1));
        STATES.put("no cells", (room, answers) -> {
            fill(room, false);
            room.addPart(2, 3, 1);
            room.addPart(2, 2, 1);
        });
        refused("no cells", "nestedLength (nowhere)", Rooms.STATE, room -> room.nestedLength(2));
        refused("no cells", "nestedByTrying (nowhere)", Rooms.STATE, room -> room.nestedByTrying(2));
    }

    private static void cuttingIsRefused() {
        for (String state : List.of("new", "open", "folded", "full")) {
            refused(state, "addCloth (0)", Rooms.ARGUMENT, room -> room.addCloth(0));
            refused(state, "addCloth (10000)", Rooms.ARGUMENT, room -> room.addCloth(10000));
            refused(state, "spread (0)", Rooms.ARGUMENT, room -> room.spread(0));
            refused(state, "spread (51)", Rooms.ARGUMENT, room -> room.spread(51));
            refused(state, "pieces (shape)", Rooms.INDEX, room -> room.pieces(-1, true));
        }
        refused("full roll", "addCloth (1)", Rooms.ARGUMENT, room -> room.addCloth(1));
        refused("full roll", "addCloth (9999)", Rooms.ARGUMENT, room -> room.addCloth(9999));
        refused("new", "spread (empty)", Rooms.UNSUPPORTED, room -> room.spread(1));
        refused("nap", "spread (empty)", Rooms.UNSUPPORTED, room -> room.spread(3));
        refused("open", "spread (roll)", Rooms.STATE, room -> room.spread(50));
        refused("folded", "spread (roll)", Rooms.STATE, room -> room.spread(50));
        refused("full", "spread (stock)", Rooms.STATE, room -> room.spread(1));
        for (String state : List.of("open", "folded", "full")) {
            refused(state, "pieces (single)", Rooms.UNSUPPORTED, room -> room.pieces(0, true));
        }
    }

    private static void garmentsAreRefused() {
        for (String state : List.of("new", "open", "folded", "full")) {
            refused(state, "canMake (style)", Rooms.INDEX, room -> room.canMake(4));
            refused(state, "canMakeByTaking (style)", Rooms.INDEX, room -> room.canMakeByTaking(4));
            refused(state, "make (style)", Rooms.INDEX, room -> room.make(4, 1));
            refused(state, "made (style)", Rooms.INDEX, room -> room.made(4));
            refused(state, "pliesFor (style)", Rooms.INDEX, room -> room.pliesFor(4, 1));
        }
        for (String state : List.of("open", "folded", "full")) {
            refused(state, "canMake (no parts)", Rooms.UNSUPPORTED, room -> room.canMake(2));
            refused(state, "canMakeByTaking (no parts)", Rooms.UNSUPPORTED, room -> room.canMakeByTaking(2));
            refused(state, "make (no parts)", Rooms.UNSUPPORTED, room -> room.make(2, 1));
            refused(state, "pliesFor (no parts)", Rooms.UNSUPPORTED, room -> room.pliesFor(2, 1));
            refused(state, "make (0 garments)", Rooms.ARGUMENT, room -> room.make(0, 0));
            refused(state, "make (100 garments)", Rooms.ARGUMENT, room -> room.make(0, 100));
            refused(state, "pliesFor (0 garments)", Rooms.ARGUMENT, room -> room.pliesFor(0, 0));
            refused(state, "make (pieces)", Rooms.STATE, room -> room.make(1, 99));
        }
        refused("full", "pliesFor (no mirrored pieces)", Rooms.STATE, room -> room.pliesFor(1, 1));
        refused("new", "density (empty)", Rooms.ARITHMETIC, room -> room.density());
        refused("new", "meanCells (empty)", Rooms.ARITHMETIC, room -> room.meanCells());
        refused("nap", "density (empty)", Rooms.ARITHMETIC, room -> room.density());
        refused("nap", "meanCells (empty)", Rooms.ARITHMETIC, room -> room.meanCells());
    }

    private static void askingChangesNothing() {
        for (String state : STATES.keySet()) {
            unchanged(state + " room, numbers asked for", state, LOOKS.get("numbers"));
            unchanged(state + " room, places asked for", state, LOOKS.get("places"));
            unchanged(state + " room, cells asked for", state, LOOKS.get("cells"));
        }
    }

    /** Each exception that the face declares was among the refusals. */
    private static void eachExceptionWasSeen() {
        for (Method method : CuttingRoom.class.getDeclaredMethods()) {
            for (Class<?> exception : method.getExceptionTypes()) {
                String pair = method.getName() + " " + exception.getSimpleName();
                CHECK.due("a refusal: " + pair, true, REFUSED.contains(pair));
            }
        }
    }
}
