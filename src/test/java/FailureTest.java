/** Promise 5: the number of the last run's failure. */
public final class FailureTest {
    private static final Check CHECK = new Check("FailureTest");

    public static void main(String[] args) {
        Script s = new Script(CHECK, "failure");
        int one = s.number(1);
        int failing = s.get(3);
        int caught = s.attempt(failing, one);
        int raising = s.raise(s.number(42));
        CHECK.answers("before the first run", 0, s.language::failure);
        s.fails("not found", 4, failing);
        CHECK.answers("asked again", 4, s.language::failure);
        s.fails("raised", 142, raising);
        s.language.reset();
        CHECK.answers("a reset leaves it", 142, s.language::failure);
        Check.outcome(() -> s.language.expression(99, 0, 0, 0));
        Check.outcome(() -> s.language.run(100));
        Check.outcome(() -> s.language.element(100));
        CHECK.answers("other calls leave it", 142, s.language::failure);
        s.gives("a value", one, 1);
        s.gives("a caught failure", caught, 1);
        CHECK.answers("none for a caught one", 0, s.language::failure);
        s.fails("failure in the handler", 142, s.attempt(failing, raising));
        s.gives("whole run ended", s.then(s.end(one), failing), 1);
        s.fails("failure after an ended run", 4, failing);
        int ended = s.call(s.function(s.end(one), 0, 0));
        s.fails("failure after an ended call", 4, s.then(ended, failing));
        CHECK.end();
    }
}
