/** Counts the answers of one test that are not as due, and ends it. */
final class Check {
    /** A call that may throw. */
    interface Call {
        int answer();
    }

    private static final int SHOWN = 20;

    private final String test;
    private int checked = 0;
    private int wrong = 0;

    Check(String test) {
        this.test = test;
    }

    void due(String what, Object want, Object got) {
        checked++;
        if (want.equals(got)) {
            return;
        }
        wrong++;
        if (wrong <= SHOWN) {
            System.out.println(test + ": " + what + " answered " + got + ", due is " + want);
        }
    }

    void answers(String what, int want, Call call) {
        due(what, String.valueOf(want), outcome(call));
    }

    void refuses(String what, Class<? extends RuntimeException> want, Call call) {
        due(what, want.getSimpleName(), outcome(call));
    }

    /** What a call answers, or the name of what it throws. */
    static String outcome(Call call) {
        try {
            return String.valueOf(call.answer());
        } catch (RuntimeException thrown) {
            return thrown.getClass().getSimpleName();
        }
    }

    boolean allRight() {
        return wrong == 0;
    }

    void end() {
        System.out.println(test + ": " + checked + " checked, " + wrong + " wrong");
        if (wrong != 0 || checked == 0) {
            System.exit(1);
        }
    }
}
