/** Promise 8: what a reset forgets, keeps and answers. */
public final class ResetTest {
    private static final Check CHECK = new Check("ResetTest");

    public static void main(String[] args) {
        forgetsAllVariables();
        answersTheEnvironments();
        keepsTheRest();
        environmentsCanBeMadeAnew();
        CHECK.end();
    }

    private static void forgetsAllVariables() {
        Script s = new Script(CHECK, "variables");
        int number = s.number(1);
        for (int variable = 0; variable <= 9; variable++) {
            s.quietly(s.set(variable, number));
        }
        CHECK.answers("no environments", 0, s.language::reset);
        for (int variable = 0; variable <= 9; variable++) {
            s.hasNothing("variable " + variable, variable);
        }
        s.fails("not found", 4, s.get(0));
        CHECK.refuses("no last value", IllegalStateException.class, () -> s.language.element(0));
    }

    private static void answersTheEnvironments() {
        Script s = new Script(CHECK, "environments");
        int call = s.call(s.function(s.number(1), 0, 0));
        int failing = s.call(s.function(s.get(7), 0, 0));
        s.quietly(s.then(call, call));
        s.quietly(failing);
        s.counts("environments", 1, 3);
        CHECK.answers("three", 3, s.language::reset);
        s.counts("none any more", 1, 0);
        CHECK.answers("none", 0, s.language::reset);
        s.quietly(call);
        CHECK.answers("one", 1, s.language::reset);
    }

    private static void keepsTheRest() {
        Script s = new Script(CHECK, "the rest");
        int call = s.call(s.function(s.get(0), 1, 0), s.number(3));
        s.gives("call", call, 3);
        s.language.reset();
        s.counts("expressions", 0, 4);
        s.counts("steps", 2, 4);
        s.counts("arguments", 3, 1);
        s.gives("call again", call, 3);
    }

    private static void environmentsCanBeMadeAnew() {
        Script s = new Script(CHECK, "limit");
        int call = s.call(s.function(s.number(1), 0, 0));
        for (int made = 0; made < 90; made++) {
            s.quietly(call);
        }
        s.fails("the 91st", 9, call);
        CHECK.answers("ninety", 90, s.language::reset);
        s.gives("the first after it", call, 1);
        s.counts("environments", 1, 1);
    }
}
