import java.io.IOException;
import java.lang.reflect.Method;
import java.lang.reflect.Modifier;
import java.nio.charset.StandardCharsets;
import java.nio.file.Files;
import java.nio.file.Path;
import java.util.ArrayList;
import java.util.List;
import java.util.TreeSet;
import java.util.regex.Matcher;
import java.util.regex.Pattern;
import java.util.stream.Stream;

/**
 * README.md: its examples are the statements of exampleOfUse and exampleOfRefusals, line by line, and each one does
 * what the text beside it says; its table names each call of the face; its list names each test.
 */
public final class ReadmeTest {
    private static final Check CHECK = new Check("ReadmeTest");
    private static final Path README = Path.of("README.md");
    private static final Path TESTS = Path.of("src", "test", "java");

    private ReadmeTest() {
    }

    public static void main(String[] args) throws IOException {
        CuttingRoom room = exampleOfUse();
        exampleOfRefusals(room, 0);
        examplesAreThoseOfReadme();
        eachCallIsInTheTable();
        eachTestIsInTheList();
        CHECK.end();
    }

    private static CuttingRoom exampleOfUse() {
        CuttingRoom room = new CuttingRoom();
        room.setCloth(4, false, 0);
        CHECK.due("4 columns", 4, room.setCloth(4, false, 0));
        int shape = room.addShape('q', false);
        CHECK.dueThrow("single", Rooms.UNSUPPORTED, () -> room.pieces(shape, true));
        room.addCell(shape, 0, 0);
        room.addCell(shape, 1, 0);
        room.addCell(shape, 1, 1);
        CHECK.due("can be turned by quarters", '-', room.reason(shape, 3, 0, 0, false));
        CHECK.due("'o' from the fifth column on", 'o', room.reason(shape, 0, 0, 3, false));
        room.nest(shape, false);
        CHECK.due("piece 0", "0 0 0", room.rowOf(0) + " " + room.columnOf(0) + " " + room.turnsOf(0));
        room.nest(shape, false);
        CHECK.due("piece 1, beside it", "0 1 2", room.rowOf(1) + " " + room.columnOf(1) + " " + room.turnsOf(1));
        room.addCloth(20);
        CHECK.due("the roll", 20, room.roll());
        CHECK.due("two rows", 2, room.length());
        room.spread(3);
        CHECK.due("14 rows are left", 14, room.roll());
        CHECK.due("three plies of two pieces", 6, room.pieces(shape, false));
        int style = room.addStyle();
        room.addPart(style, shape, 2);
        CHECK.due("two pieces a garment", 2, room.piecesFor(style));
        room.make(style, 3);
        CHECK.due("three garments", 3, room.made(style));
        CHECK.due("no pieces are left", 0, room.pieces(shape, false));
        return room;
    }

    private static void exampleOfRefusals(CuttingRoom room, int shape) {
        room.reason(shape, 0, 0, 3, false);
        CHECK.due("beside the cloth", 'o', room.reason(shape, 0, 0, 3, false));
        room.reason(shape, 0, 1, 0, false);
        CHECK.due("on piece 0", 'p', room.reason(shape, 0, 1, 0, false));
        CHECK.due("on piece 0", 0, room.pieceAt(1, 0));
        room.reason(shape, 0, 2, 0, false);
        CHECK.due("can be laid", '-', room.reason(shape, 0, 2, 0, false));
        CHECK.dueThrow("lay", Rooms.UNSUPPORTED, () -> room.lay(shape, 0, 0, 3, false));
        try {
            room.lay(shape, 0, 0, 3, false);
        } catch (UnsupportedOperationException refused) {
            room.inMarker();
            CHECK.due("as before", 2, room.inMarker());
        }
    }

    private static void examplesAreThoseOfReadme() throws IOException {
        List<List<String>> examples = examples();
        CHECK.due("the number of examples", 2, examples.size());
        List<String> first = statementsOf("exampleOfUse");
        first.remove("return room;");
        CHECK.due("the first example", first, statements(examples.get(0)));
        CHECK.due("the second example", statementsOf("exampleOfRefusals"), statements(examples.get(1)));
    }

    private static List<List<String>> examples() throws IOException {
        List<List<String>> result = new ArrayList<>();
        boolean isInside = false;
        for (String line : Files.readAllLines(README, StandardCharsets.UTF_8)) {
            if (line.equals("```java")) {
                result.add(new ArrayList<>());
                isInside = true;
            } else if (line.equals("```")) {
                isInside = false;
            } else if (isInside) {
                result.get(result.size() - 1).add(line);
            }
        }
        return result;
    }

    /** The lines of one of this test's own methods. */
    private static List<String> statementsOf(String method) throws IOException {
        List<String> lines = Files.readAllLines(TESTS.resolve("ReadmeTest.java"), StandardCharsets.UTF_8);
        int head = 0;
        while (!lines.get(head).startsWith("    private static ") || !lines.get(head).contains(" " + method + "(")) {
            head++;
        }
        int end = head + lines.subList(head, lines.size()).indexOf("    }");
        return statements(lines.subList(head + 1, end));
    }

    private static List<String> statements(List<String> lines) {
        List<String> result = new ArrayList<>();
        for (String line : lines) {
            String statement = line.replaceAll("//.*", "").strip();
            if (!statement.isEmpty() && !statement.startsWith("CHECK.")) {
                result.add(statement);
            }
        }
        return result;
    }

    private static void eachCallIsInTheTable() throws IOException {
        List<String> due = new ArrayList<>();
        for (Method method : CuttingRoom.class.getDeclaredMethods()) {
            if (Modifier.isPublic(method.getModifiers())) {
                due.add(method.getName());
            }
        }
        List<String> named = new ArrayList<>();
        for (String line : Files.readAllLines(README, StandardCharsets.UTF_8)) {
            if (line.startsWith("|")) {
                Matcher name = Pattern.compile("`(\\w+)`").matcher(line);
                while (name.find()) {
                    named.add(name.group(1));
                }
            }
        }
        CHECK.due("the calls of the table", new TreeSet<>(due), new TreeSet<>(named));
        CHECK.due("no call is named twice", due.size(), named.size());
    }

    private static void eachTestIsInTheList() throws IOException {
        String readme = Files.readString(README, StandardCharsets.UTF_8);
        try (Stream<Path> files = Files.list(TESTS)) {
            for (Path file : files.sorted().toList()) {
                String name = file.getFileName().toString().replace(".java", "");
                CHECK.due("README.md names " + name, true, readme.contains("`" + name + "`"));
            }
        }
    }
}
