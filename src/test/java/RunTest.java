import java.util.NoSuchElementException;

/** Promise 3: what a run answers and throws. */
public final class RunTest {
    private static final Check CHECK = new Check("RunTest");

    public static void main(String[] args) {
        answersTheLength();
        throwsForEachFailure();
        noSuchExpressionChangesNothing();
        assignmentsStay();
        runsInTheGlobalEnvironment();
        CHECK.end();
    }

    private static void answersTheLength() {
        Script s = new Script(CHECK, "length");
        s.gives("NULL", s.nothing());
        s.gives("NA", s.na(), Script.NA);
        s.gives("number", s.number(-1000000000), -1000000000);
        s.gives("sixteen", s.range(s.number(1), s.number(16)), 1, 2, 3, 4, 5, 6, 7, 8, 9, 10, 11, 12, 13, 14, 15, 16);
        s.givesFunction("function", s.function(0, 0, 0));
    }

    private static void throwsForEachFailure() {
        Script s = new Script(CHECK, "failures");
        int one = s.number(1);
        int function = s.function(one, 0, 0);
        s.fails("too long", 1, s.range(one, s.number(17)));
        int itself = s.get(3);
        int wanting = s.function(s.then(s.setAround(4, s.function(itself, 0, 0)), itself), 1, 3);
        s.fails("wanted within itself", 2, s.call(wanting, s.call(s.get(4))));
        s.fails("a function for a vector", 3, s.not(function));
        s.fails("no variable", 4, s.get(8));
        s.fails("a range from NULL", 5, s.range(s.nothing(), one));
        s.fails("too many arguments", 6, s.call(function, one));
        s.fails("no condition", 7, s.choose(s.na(), one, one));
        s.fails("a wrong index", 8, s.pick(one, s.vector(-1, 1)));
        s.fails("no end", 9, s.repeat(one, one));
        s.fails("raised 0", 100, s.raise(s.number(0)));
        s.fails("raised 4", 104, s.raise(s.number(4)));
        s.fails("raised 99", 199, s.raise(s.number(99)));
    }

    private static void noSuchExpressionChangesNothing() {
        Script s = new Script(CHECK, "no such expression");
        int argument = s.get(0);
        int call = s.call(s.function(argument, 1, 0), s.number(6));
        s.gives("call", call, 6);
        s.fails("failure", 4, s.get(5));
        for (int number : new int[] {-1, 5, 119, 120, Integer.MIN_VALUE, Integer.MAX_VALUE}) {
            CHECK.refuses("run " + number, NoSuchElementException.class, () -> s.language.run(number));
        }
        CHECK.due("failure stays", 4, s.language.failure());
        s.counts("steps stay", 2, 1);
        s.gives("call again", call, 6);
        CHECK.refuses("run 5", NoSuchElementException.class, () -> s.language.run(5));
        s.counts("steps of the call stay", 2, 4);
        s.counts("arguments stay", 3, 1);
        s.counts("environments stay", 1, 2);
        s.counts("expressions stay", 0, 5);
        CHECK.answers("last value stays", 6, () -> s.language.element(0));
        CHECK.due("no failure stays", 0, s.language.failure());
    }

    private static void assignmentsStay() {
        Script s = new Script(CHECK, "assignments");
        int assigned = s.set(2, s.vector(4, 5));
        s.fails("failure behind one", 4, s.then(assigned, s.get(7)));
        s.has("assigned before", 2, 4, 5);
        s.gives("read by the next run", s.get(2), 4, 5);
    }

    private static void runsInTheGlobalEnvironment() {
        Script s = new Script(CHECK, "global");
        s.gives("assign", s.set(0, s.number(3)), 3);
        s.gives("assign around", s.setAround(1, s.number(4)), 4);
        s.has("assigned", 0, 3);
        s.has("assigned around", 1, 4);
        s.fails("no call", 6, s.absent(0));
    }
}
