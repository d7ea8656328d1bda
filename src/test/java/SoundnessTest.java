import java.lang.reflect.Field;

/**
 * Promise 41, the answer false: no call of the face leads there, so the state of a room is spoilt by reflection.
 * It leans on the names of private fields; if they change, it has to change with them.
 */
public final class SoundnessTest {
    private SoundnessTest() {
    }

    public static void main(String[] args) throws ReflectiveOperationException {
        Check check = new Check("SoundnessTest");
        check.due("a room as it should be", true, room().isSound());
        check.due("a plain piece too many in the stock", false, withShapeField("plain", 4));
        check.due("a mirrored piece too few in the stock", false, withShapeField("mirrored", 2));
        check.due("a garment too many", false, withGarments(2));
        check.due("no garment", false, withGarments(0));
        check.due("a piece on another one", false, withPieceRow(1));
        check.due("a piece on the last row of another one", false, withPieceRow(2));
        check.due("a piece below the other one", true, withPieceRow(3));
        check.end();
    }

    /** Has a piece in the rows 0 to 2 and one in the rows 3 to 5, 5 plain and 5 mirrored pieces cut, 3 of each left. */
    private static CuttingRoom room() {
        CuttingRoom room = new CuttingRoom();
        int shape = room.addShape('n', true);
        room.addCell(shape, 0, 0);
        room.addCell(shape, 1, 0);
        room.addCell(shape, 2, 0);
        room.lay(shape, 0, 0, 0, false);
        room.lay(shape, 0, 3, 0, true);
        room.addCloth(100);
        room.spread(5);
        room.addStyle();
        room.addPart(0, shape, 2);
        room.make(0, 1);
        return room;
    }

    private static boolean withShapeField(String name, int value) throws ReflectiveOperationException {
        CuttingRoom room = room();
        field(((Object[]) get(room, "shapes"))[0], name).setInt(((Object[]) get(room, "shapes"))[0], value);
        return room.isSound();
    }

    private static boolean withGarments(int value) throws ReflectiveOperationException {
        CuttingRoom room = room();
        Object style = ((Object[]) get(room, "styles"))[0];
        field(style, "garments").setInt(style, value);
        return room.isSound();
    }

    private static boolean withPieceRow(int row) throws ReflectiveOperationException {
        CuttingRoom room = room();
        Object piece = ((Object[]) get(get(room, "marker"), "pieces"))[1];
        field(piece, "row").setInt(piece, row);
        return room.isSound();
    }

    private static Object get(Object object, String name) throws ReflectiveOperationException {
        return field(object, name).get(object);
    }

    private static Field field(Object object, String name) throws ReflectiveOperationException {
        Field field = object.getClass().getDeclaredField(name);
        field.setAccessible(true);
        return field;
    }
}
