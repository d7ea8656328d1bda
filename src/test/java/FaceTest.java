import java.lang.reflect.Constructor;
import java.lang.reflect.Field;
import java.lang.reflect.Member;
import java.lang.reflect.Method;
import java.lang.reflect.Modifier;
import java.util.ArrayList;
import java.util.Arrays;
import java.util.Collections;
import java.util.List;

/** The class has the document's face and no other member that can be seen, and its fields keep to LANGUAGE.md. */
public final class FaceTest {
    private static final String A = "IllegalArgumentException";
    private static final String S = "IllegalStateException";
    private static final String U = "UnsupportedOperationException";
    private static final String I = "IndexOutOfBoundsException";
    private static final String N = "NoSuchElementException";
    private static final String R = "ArithmeticException";

    private static final String[] DUE = {
        "int setCloth(int,boolean,int) " + A + " " + S, "boolean fold(boolean) " + S,
        "int addFlaw(int,int) " + A + " " + U + " " + S, "int clearFlaws()",
        "int addShape(char,boolean) " + A + " " + S,
        "int addCell(int,int,int) " + I + " " + A + " " + U + " " + S,
        "int setMark(int,int,int,int) " + I + " " + A + " " + S, "int cellsOf(int) " + I,
        "int lay(int,int,int,int,boolean) " + I + " " + A + " " + U + " " + S,
        "char reason(int,int,int,int,boolean) " + I + " " + A, "int nest(int,boolean) " + I + " " + N + " " + S,
        "int takeOff(int) " + N, "int clear()", "int inMarker()", "int rowOf(int) " + N, "int columnOf(int) " + N,
        "int turnsOf(int) " + N, "int pieceAt(int,int) " + A + " " + S,
        "int pieceByPieces(int,int) " + A + " " + S, "int length()", "int used()", "int phase(int) " + A + " " + S,
        "int addStyle() " + S, "int addPart(int,int,int) " + I + " " + A + " " + U, "int piecesFor(int) " + I,
        "int nestedLength(int) " + I + " " + U + " " + S, "int nestedByTrying(int) " + I + " " + U + " " + S,
        "int addCloth(int) " + A, "int roll()", "int spread(int) " + A + " " + U + " " + S,
        "int pieces(int,boolean) " + I + " " + U, "int canMake(int) " + I + " " + U,
        "int canMakeByTaking(int) " + I + " " + U, "int make(int,int) " + I + " " + A + " " + U + " " + S,
        "int made(int) " + I, "int pliesFor(int,int) " + I + " " + A + " " + U + " " + S, "long cut()",
        "float density() " + R, "double meanCells() " + R, "boolean isSound()"};

    private FaceTest() {
    }

    public static void main(String[] args) {
        Check check = new Check("FaceTest");
        check.due("the modifiers of the class", "public final", Modifier.toString(CuttingRoom.class.getModifiers()));
        check.due("the constructors", List.of("public CuttingRoom()"), constructors());
        check.due("the methods", sorted(List.of(DUE)), methods());
        check.due("private methods with a public one's name", List.of(), sameNames());
        check.due("fields that are not private", List.of(), openFields());
        check.due("classes inside that are not static or could be seen outside", List.of(), openClasses());
        check.due("static fields that are not final", List.of(), changingStatics());
        check.due("at most twelve classes", true, CuttingRoom.class.getDeclaredClasses().length < 12);
        check.end();
    }

    private static List<String> sorted(List<String> texts) {
        List<String> result = new ArrayList<>(texts);
        Collections.sort(result);
        return result;
    }

    private static boolean isPrivate(Member member) {
        return Modifier.isPrivate(member.getModifiers());
    }

    private static List<String> constructors() {
        List<String> result = new ArrayList<>();
        for (Constructor<?> constructor : CuttingRoom.class.getDeclaredConstructors()) {
            result.add(constructor.toString());
        }
        return result;
    }

    private static List<String> methods() {
        List<String> result = new ArrayList<>();
        for (Method method : CuttingRoom.class.getDeclaredMethods()) {
            if (!isPrivate(method)) {
                StringBuilder text = new StringBuilder(method.getReturnType().getName() + " " + method.getName() + "(");
                String[] types = Arrays.stream(method.getParameterTypes()).map(Class::getName).toArray(String[]::new);
                text.append(String.join(",", types)).append(')');
                for (Class<?> thrown : method.getExceptionTypes()) {
                    text.append(' ').append(thrown.getSimpleName());
                }
                result.add(text.toString());
            }
        }
        return sorted(result);
    }

    private static List<String> sameNames() {
        List<String> names = new ArrayList<>();
        for (Method method : CuttingRoom.class.getMethods()) {
            names.add(method.getName());
        }
        List<String> result = new ArrayList<>();
        for (Class<?> each : allClasses()) {
            for (Method method : each.getDeclaredMethods()) {
                if (names.contains(method.getName()) && (each != CuttingRoom.class || isPrivate(method))) {
                    result.add(method.toString());
                }
            }
        }
        return result;
    }

    private static List<Class<?>> allClasses() {
        List<Class<?>> all = new ArrayList<>(List.of(CuttingRoom.class));
        all.addAll(List.of(CuttingRoom.class.getDeclaredClasses()));
        return all;
    }

    private static List<String> openFields() {
        List<String> result = new ArrayList<>();
        for (Field field : CuttingRoom.class.getDeclaredFields()) {
            if (!isPrivate(field)) {
                result.add(field.toString());
            }
        }
        return result;
    }

    private static List<String> openClasses() {
        List<String> result = new ArrayList<>();
        for (Class<?> inside : CuttingRoom.class.getDeclaredClasses()) {
            int modifiers = inside.getModifiers();
            if (!Modifier.isStatic(modifiers) || Modifier.isPublic(modifiers) || Modifier.isProtected(modifiers)) {
                result.add(inside.getName());
            }
        }
        return result;
    }

    private static List<String> changingStatics() {
        List<String> result = new ArrayList<>();
        for (Class<?> each : allClasses()) {
            for (Field field : each.getDeclaredFields()) {
                if (Modifier.isStatic(field.getModifiers()) && !Modifier.isFinal(field.getModifiers())) {
                    result.add(field.toString());
                }
            }
        }
        return result;
    }
}
