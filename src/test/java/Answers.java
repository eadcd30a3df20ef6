import java.util.Objects;

/** Compares answers with those that are due, and counts those that are not. */
final class Answers {
    /** A call, as its answer or as the exception that it throws. */
    interface Call {
        Object answer();
    }

    private int asked = 0;
    private int wrong = 0;

    void due(String what, Object due, Call call) {
        asked++;
        Object got = outcomeOf(call);
        if (!Objects.equals(due, got)) {
            wrong++;
            System.out.println(what + ": answered " + got + ", due is " + due);
        }
    }

    /** The answer of a call, or the class of the exception that it throws. */
    static Object outcomeOf(Call call) {
        try {
            return call.answer();
        } catch (RuntimeException e) {
            return e.getClass();
        }
    }

    int wrong() {
        return wrong;
    }

    void end(String test) {
        System.out.println(test + ": " + asked + " asked, " + wrong + " not as due");
        if (wrong != 0) {
            System.exit(1);
        }
    }
}
