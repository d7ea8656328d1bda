import java.io.IOException;
import java.nio.charset.StandardCharsets;
import java.nio.file.Files;
import java.nio.file.Path;
import java.util.ArrayList;
import java.util.List;
import java.util.regex.Matcher;
import java.util.regex.Pattern;

/** Some rules of LANGUAGE.md that can be read off the text of the program. */
public final class LanguageTest {
    private static final Path PROGRAM = Path.of("src", "main", "java", "CuttingRoom.java");

    /** What the rules leave out and the program does not need, each as a pattern. */
    private static final String[] LEFT_OUT = {
        "->", "::", "\\btry\\b", "\\bcatch\\b", "\\bfinally\\b", "\\bsynchronized\\b", "\\bassert\\b", "\\byield\\b",
        "\\bSystem\\s*\\.(?!arraycopy)", "\\bThread\\b", "\\bRandom\\b", "Exact\\s*\\(", "\\bstatic\\s*\\{", "@",
        "\\bvolatile\\b", "\\btransient\\b", "\\bnative\\b", "\\bClass\\b", "getClass", "hashCode", "toString",
        "\\bObject\\b", "\\[\\]\\s*\\[\\]", "\\bfor\\s*\\(\\s*;", "while\\s*\\(\\s*true", "\"\\s*\\+", "\\+\\s*\""};

    /** Calls are to make nothing: what a room needs is made with it, with a shape or with a style. */
    private static final String[] MADE = {
        "new Cloth()", "new Marker()", "new Shape[MOST_SHAPES]", "new Style[MOST_STYLES]",
        "new int[MOST_SHAPES * SORTS]", "new int[MOST_NESTED]", "new Shape(rule, isPaired)", "new Style()",
        "new int[ROWS]", "new int[SIDE]", "new Outline[TURNS * SORTS]", "new Outline(i % TURNS, i >= TURNS)",
        "new Piece[MOST_PIECES]", "new Piece()", "new int[ROWS * COLUMNS]", "new int[GROUPS]",
        "new int[MOST_SHAPES]"};

    private LanguageTest() {
    }

    public static void main(String[] args) throws IOException {
        Check check = new Check("LanguageTest");
        String text = Files.readString(PROGRAM, StandardCharsets.UTF_8);
        String code = text.replaceAll("(?s)/\\*.*?\\*/", "").replaceAll("//[^\n]*", "");
        for (String pattern : LEFT_OUT) {
            check.due("what matches " + pattern, List.of(), found(code, pattern));
        }
        check.due("signs beyond 127", List.of(), found(text, "[^\\x09\\x0a\\x20-\\x7e]"));
        check.due("imports", List.of("import java.util.Arrays;", "import java.util.NoSuchElementException;"),
                found(code, "import [^;]*;"));
        check.due("throws without a written text", List.of(),
                found(code, "throw (?!new [A-Za-z]+Exception\\(\"[^\"]*\"\\);)[^;]*;"));
        List<String> made = found(code, "(?<!throw )new [^;,]*(, i[^;]*)?(?=;)");
        made.removeAll(List.of(MADE));
        check.due("what else is made", List.of(), made);
        check.due("methods of more than 60 lines", List.of(), longMethods(code));
        check.due("methods of more than seven parameters", List.of(),
                found(code, "\\([^()]*(?:,[^(),]*){7,}\\)[^;{]*\\{"));
        check.end();
    }

    private static List<String> found(String text, String pattern) {
        List<String> result = new ArrayList<>();
        Matcher matcher = Pattern.compile(pattern).matcher(text);
        while (matcher.find()) {
            result.add(matcher.group());
        }
        return result;
    }

    private static List<String> longMethods(String code) {
        List<String> result = new ArrayList<>();
        String[] lines = code.split("\n");
        for (int i = 0; i < lines.length; i++) {
            Matcher head = Pattern.compile("^( {4}| {8})[a-zA-Z].*\\(.*").matcher(lines[i]);
            if (head.matches() && !lines[i].endsWith(";")) {
                int end = i;
                while (end < lines.length && !lines[end].equals(head.group(1) + "}")) {
                    end++;
                }
                if (end - i > 60 && !lines[i].contains("class")) {
                    result.add(lines[i]);
                }
            }
        }
        return result;
    }
}
