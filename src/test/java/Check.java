import java.util.concurrent.Callable;

/** Compares answers with those that are due, and counts the wrong ones; an exception is an answer, too. */
final class Check {
    private int checks = 0;
    private int wrong = 0;

    /** The answer of a call as a text: what it returns, or the simple name of what it throws. */
    static String answerOf(Callable<?> call) {
        try {
            return String.valueOf(call.call());
        } catch (Exception e) {
            return e.getClass().getSimpleName();
        }
    }

    void due(String what, Object want, Callable<?> call) {
        checks++;
        String got = answerOf(call);
        if (!got.equals(String.valueOf(want))) {
            wrong++;
            if (wrong <= 40) {
                System.out.println(what + " answered " + got + ", due is " + want);
            }
        }
    }

    int wrong() {
        return wrong;
    }

    void end(String name) {
        System.out.println(name + ": " + checks + " checks, " + wrong + " wrong");
        if (wrong != 0) {
            System.exit(1);
        }
    }
}
