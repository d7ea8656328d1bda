import java.util.Objects;

/** What the tests share: it counts the answers that are not as due, and prints them. */
final class Check {
    interface Call {
        Object answer();
    }

    interface CallWith {
        Object answer(int argument);
    }

    interface CallOn {
        Object answer(CuttingRoom room);
    }

    private final String test;
    private int asked;
    private int wrong;

    Check(String test) {
        this.test = test;
    }

    void due(String what, Object want, Object got) {
        asked++;
        if (!Objects.equals(got, want)) {
            wrong++;
            System.out.println(test + ": " + what + " answered " + got + ", due is " + want);
        }
    }

    /** The very class is due: the machine's exceptions are of classes below those of the document. */
    void dueThrow(String what, Class<? extends RuntimeException> want, Call call) {
        asked++;
        String got;
        try {
            got = "the answer " + call.answer();
        } catch (RuntimeException e) {
            if (e.getClass() == want) {
                return;
            }
            got = e.toString();
        }
        wrong++;
        System.out.println(test + ": " + what + " gave " + got + ", due is " + want.getSimpleName());
    }

    /** The same for a call with each of several arguments. */
    void dueThrowEach(String what, int[] arguments, Class<? extends RuntimeException> want, CallWith call) {
        for (int argument : arguments) {
            dueThrow(what + " " + argument, want, () -> call.answer(argument));
        }
    }

    /** Ends the test's program, with exit code 1 if an answer was wrong. */
    void end() {
        System.out.println(test + ": " + asked + " answers, " + wrong + " not as due");
        if (wrong > 0 || asked == 0) {
            System.exit(1);
        }
    }
}
