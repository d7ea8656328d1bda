import java.lang.reflect.InvocationTargetException;
import java.lang.reflect.Method;
import java.util.ArrayList;
import java.util.List;
import java.util.Map;
import java.util.Random;
import java.util.TreeMap;

/** Runs of 512 calls, the same in every run of this test, on the room and on PlainRoom: all answers must agree. */
public final class RandomRunsTest {
    private static final int RUNS = 700;
    private static final int CALLS = 512;

    /** What each argument of a method means, which tells how it is drawn. */
    private static final Map<String, String> ARGUMENTS = new TreeMap<>(Map.ofEntries(
            Map.entry("setCloth", "width yes stripes"), Map.entry("fold", "yes"),
            Map.entry("addFlaw", "row column"), Map.entry("clearFlaws", ""),
            Map.entry("addShape", "rule yes"), Map.entry("addCell", "shape cell cell"),
            Map.entry("setMark", "shape group cell cell"), Map.entry("cellsOf", "shape"),
            Map.entry("lay", "shape turns row column yes"), Map.entry("reason", "shape turns row column yes"),
            Map.entry("nest", "shape yes"), Map.entry("takeOff", "piece"), Map.entry("clear", ""),
            Map.entry("inMarker", ""), Map.entry("rowOf", "piece"), Map.entry("columnOf", "piece"),
            Map.entry("turnsOf", "piece"), Map.entry("pieceAt", "row column"),
            Map.entry("pieceByPieces", "row column"), Map.entry("length", ""), Map.entry("used", ""),
            Map.entry("phase", "group"), Map.entry("addStyle", ""), Map.entry("addPart", "style shape count"),
            Map.entry("piecesFor", "style"), Map.entry("nestedLength", "style"),
            Map.entry("nestedByTrying", "style"), Map.entry("addCloth", "rows"), Map.entry("roll", ""),
            Map.entry("spread", "plies"), Map.entry("pieces", "shape yes"), Map.entry("canMake", "style"),
            Map.entry("canMakeByTaking", "style"), Map.entry("make", "style garments"), Map.entry("made", "style"),
            Map.entry("pliesFor", "style garments"), Map.entry("cut", ""), Map.entry("density", ""),
            Map.entry("meanCells", ""), Map.entry("isSound", "")));

    private static final int[] EXTREMES = {Integer.MIN_VALUE, Integer.MIN_VALUE + 1, -100, Integer.MAX_VALUE - 1,
        Integer.MAX_VALUE, 1000000, 65536};

    private final Random random;
    private final Map<String, Method> real = new TreeMap<>();
    private final Map<String, Method> plain = new TreeMap<>();
    private final List<String> deck = new ArrayList<>();
    private final Map<String, Integer> outcomes;
    private int rowsMeant = 60;

    private RandomRunsTest(long seed, Map<String, Integer> outcomes) {
        random = new Random(seed);
        this.outcomes = outcomes;
        for (Method method : CuttingRoom.class.getDeclaredMethods()) {
            if (ARGUMENTS.containsKey(method.getName())) {
                real.put(method.getName(), method);
            }
        }
        for (Method method : PlainRoom.class.getMethods()) {
            plain.put(method.getName(), method);
        }
    }

    public static void main(String[] args) {
        Check check = new Check("RandomRunsTest");
        Map<String, Integer> outcomes = new TreeMap<>();
        for (int run = 0; run < RUNS; run++) {
            new RandomRunsTest(1000 + run, outcomes).play(run, check);
        }
        for (String outcome : OutcomesDue.ALL) {
            check.due("the number of calls with the outcome " + outcome + " is more than 0", true,
                    outcomes.containsKey(outcome));
        }
        if (args.length > 0) {
            outcomes.forEach((outcome, count) -> System.out.println(outcome + " " + count));
        }
        check.end();
    }

    private void play(int run, Check check) {
        CuttingRoom room = new CuttingRoom();
        PlainRoom oracle = new PlainRoom();
        shuffleDeck();
        rowsMeant = random.nextInt(3) == 0 ? 60 : 6;
        List<String> told = new ArrayList<>();
        int made = prelude(room, oracle, run, check, told);
        for (int call = made; call < CALLS; call++) {
            String name = deck.get(random.nextInt(deck.size()));
            if (!agree(room, oracle, name, arguments(name), run, check, told)) {
                return;
            }
        }
    }

    /** The calls that make a run worth its while are drawn more often, and each run has its own taste. */
    private void shuffleDeck() {
        for (String name : ARGUMENTS.keySet()) {
            int times = 1 + random.nextInt(3);
            if (List.of("nest", "lay", "reason").contains(name)) {
                times = 4 + random.nextInt(30);
            } else if (List.of("addCell", "addCloth", "spread", "make", "addFlaw", "takeOff").contains(name)) {
                times = 1 + random.nextInt(12);
            } else if (List.of("clear", "clearFlaws", "fold", "setCloth").contains(name)) {
                times = random.nextInt(2);
            }
            for (int i = 0; i < times; i++) {
                deck.add(name);
            }
        }
    }

    /** Draws a cloth, shapes with cells and marks, and styles, so that pieces can be laid soon. */
    private int prelude(CuttingRoom room, PlainRoom oracle, int run, Check check, List<String> told) {
        int before = told.size();
        agree(room, oracle, "setCloth", new Object[] {2 + random.nextInt(11), random.nextInt(4) == 0,
            random.nextInt(7)}, run, check, told);
        agree(room, oracle, "fold", new Object[] {random.nextInt(3) == 0}, run, check, told);
        int shapes = 1 + random.nextInt(5);
        int most = random.nextBoolean() ? 3 : 9;
        for (int shape = 0; shape < shapes; shape++) {
            agree(room, oracle, "addShape", new Object[] {"nhq".charAt(random.nextInt(3)), random.nextBoolean()},
                    run, check, told);
            int cells = 1 + random.nextInt(most);
            int side = 1 + random.nextInt(5);
            for (int i = 0; i < cells; i++) {
                agree(room, oracle, "addCell", new Object[] {shape, random.nextInt(side), random.nextInt(side)},
                        run, check, told);
            }
            if (random.nextBoolean()) {
                agree(room, oracle, "setMark", new Object[] {shape, random.nextInt(2), random.nextInt(5),
                    random.nextInt(5)}, run, check, told);
            }
        }
        for (int style = 0; style < 2; style++) {
            agree(room, oracle, "addStyle", new Object[0], run, check, told);
            agree(room, oracle, "addPart", new Object[] {style, random.nextInt(shapes), 1 + random.nextInt(2)},
                    run, check, told);
        }
        return told.size() - before;
    }

    private Object[] arguments(String name) {
        String meanings = ARGUMENTS.get(name);
        if (meanings.isEmpty()) {
            return new Object[0];
        }
        String[] each = meanings.split(" ");
        Object[] arguments = new Object[each.length];
        for (int i = 0; i < each.length; i++) {
            arguments[i] = argument(each[i]);
        }
        return arguments;
    }

    private Object argument(String meaning) {
        if (meaning.equals("yes")) {
            return random.nextInt(3) == 0;
        }
        if (meaning.equals("rule")) {
            return random.nextInt(6) == 0 ? (char) random.nextInt(256) : "nhq".charAt(random.nextInt(3));
        }
        if (random.nextInt(200) == 0) {
            return EXTREMES[random.nextInt(EXTREMES.length)];
        }
        switch (meaning) {
            case "width": return between(1, 13);
            case "stripes": return between(-1, 7);
            case "row": return random.nextInt(10) == 0 ? between(-1, 60) : between(0, rowsMeant - 1);
            case "column": return random.nextInt(10) == 0 ? between(-1, 12) : between(0, 11);
            case "shape": return random.nextInt(12) == 0 ? between(-1, 8) : between(0, 4);
            case "cell": return random.nextInt(10) == 0 ? between(-1, 5) : between(0, 4);
            case "group": return random.nextInt(10) == 0 ? between(-2, 4) : between(0, 1);
            case "turns": return random.nextInt(20) == 0 ? between(-1, 4) : between(0, 3);
            case "piece": return between(-1, random.nextInt(4) == 0 ? 200 : 30);
            case "style": return random.nextInt(10) == 0 ? between(-1, 4) : between(0, 1);
            case "count": return between(0, 5);
            case "rows": return random.nextInt(3) == 0 ? between(0, 50) : between(9000, 10000);
            case "plies": return random.nextInt(5) == 0 ? between(-1, 52) : between(20, 50);
            case "garments": return random.nextInt(5) == 0 ? between(-1, 101) : between(1, 20);
            default: throw new IllegalArgumentException(meaning);
        }
    }

    private int between(int least, int most) {
        return least + random.nextInt(most - least + 1);
    }

    private boolean agree(CuttingRoom room, PlainRoom oracle, String name, Object[] arguments, int run, Check check,
            List<String> told) {
        String got = outcome(real.get(name), room, arguments);
        String want = outcome(plain.get(name), oracle, arguments);
        String call = name + List.of(arguments);
        told.add(call + " -> " + got);
        outcomes.merge(kind(name, want), 1, Integer::sum);
        check.due("run " + run + ", call " + told.size() + ", " + call, want, got);
        if (!want.equals(got)) {
            told.forEach(line -> System.out.println("    " + line));
        }
        return want.equals(got);
    }

    private static String kind(String name, String outcome) {
        if (outcome.startsWith("throws.")) {
            return name + " " + outcome;
        }
        return name.equals("reason") ? name + " " + outcome : name + " answers";
    }

    private static String outcome(Method method, Object object, Object[] arguments) {
        try {
            return String.valueOf(method.invoke(object, arguments));
        } catch (InvocationTargetException e) {
            String machine = "/ by zero".equals(e.getCause().getMessage()) ? " of the machine" : "";
            return "throws." + e.getCause().getClass().getSimpleName() + machine;
        } catch (IllegalAccessException e) {
            return "not public";
        }
    }
}
