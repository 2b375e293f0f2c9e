import java.util.List;
import java.util.NoSuchElementException;
import java.util.function.ToIntFunction;

/** Promises 2 to 9: calls that are refused, in objects of many states, and that nothing changes by them. */
public final class RefusedCallsTest {
    private static final Check CHECK = new Check("RefusedCallsTest");
    private static final int FAR = 1000000000;
    private static final int NONE = Script.NONE;
    private static final int[] FAR_NUMBERS = {Integer.MIN_VALUE, Integer.MIN_VALUE + 1, -FAR, -1, FAR, Integer.MAX_VALUE};

    /** A way that brings a new object to a state, and answers how many elements the last value has; -1: no vector. */
    private record State(String name, ToIntFunction<Script> way, boolean full) {
    }

    private static final List<State> STATES = List.of(
            new State("new", s -> -1, false),
            new State("expressions made", s -> noRun(s.number(1), s.nothing()), false),
            new State("a vector", s -> after(s, 3, s.set(4, s.vector(7, Script.NA, -FAR))), false),
            new State("NULL", s -> after(s, 0, s.set(9, s.nothing())), false),
            new State("a function", s -> after(s, -1, s.set(0, s.function(s.number(1), 2, 3))), false),
            new State("no value yet", s -> after(s, -1, s.then(s.set(2, s.number(5)), s.get(1))), false),
            new State("a failure behind a value", RefusedCallsTest::valueThenFailure, false),
            new State("arguments", s -> after(s, 1, s.call(s.function(s.get(0), 1, 0), s.number(6))), false),
            new State("a limit", s -> after(s, -1, s.repeat(s.number(1), s.set(1, s.number(2)))), false),
            new State("reset", RefusedCallsTest::valueThenReset, false),
            new State("no environments left", RefusedCallsTest::allEnvironments, false),
            new State("no expressions left", RefusedCallsTest::allExpressions, true));

    public static void main(String[] args) {
        for (State state : STATES) {
            expressions(state);
            if (state.full()) {
                noMoreExpressions(state);
            }
            runs(state);
            elements(state);
            variables(state);
            values(state);
            counts(state);
        }
        CHECK.end();
    }

    private static int noRun(int... expressions) {
        return -1;
    }

    private static int after(Script s, int size, int expression) {
        s.quietly(expression);
        return size;
    }

    private static int valueThenFailure(Script s) {
        s.quietly(s.set(1, s.vector(1, 2)));
        s.quietly(s.raise(s.number(77)));
        return 2;
    }

    private static int valueThenReset(Script s) {
        s.quietly(s.set(1, s.call(s.function(s.vector(1, 2), 0, 0))));
        s.language.reset();
        return -1;
    }

    private static int allEnvironments(Script s) {
        int call = s.call(s.function(s.number(1), 0, 0));
        for (int made = 0; made <= 90; made++) {
            s.quietly(call);
        }
        return 1;
    }

    private static int allExpressions(Script s) {
        s.quietly(s.set(3, s.number(8)));
        while (s.language.count(0) < 120) {
            s.number(2);
        }
        return 1;
    }

    /** A call on an object that has been brought to a state. */
    private interface Call {
        int on(VectorLanguage language);
    }

    private static void refuses(State state, Class<? extends RuntimeException> want, String what, Call call) {
        Script s = new Script(CHECK, state.name());
        state.way().applyAsInt(s);
        String before = Snapshot.of(s.language);
        CHECK.refuses(state.name() + ", " + what, want, () -> call.on(s.language));
        CHECK.due(state.name() + ", " + what + " changes nothing", before, Snapshot.of(s.language));
    }

    private static int made(State state) {
        Script s = new Script(CHECK, state.name());
        state.way().applyAsInt(s);
        return s.language.count(0);
    }

    private static int lastSize(State state) {
        return state.way().applyAsInt(new Script(CHECK, state.name()));
    }

    private static void expression(State state, int kind, int a, int b, int c) {
        refuses(state, IllegalArgumentException.class, "expression(" + kind + ", " + a + ", " + b + ", " + c + ")",
                language -> language.expression(kind, a, b, c));
    }

    private static void expressions(State state) {
        int made = made(state);
        for (int kind : new int[] {Integer.MIN_VALUE, -1, 26, Integer.MAX_VALUE}) {
            expression(state, kind, 0, 0, 0);
        }
        for (int number : new int[] {Integer.MIN_VALUE, -FAR - 1, FAR + 1, Integer.MAX_VALUE}) {
            expression(state, 0, number, 0, 0);
        }
        for (int kind : new int[] {3, 4, 5, 13, 21}) {
            expression(state, kind, -1, 0, 0);
            expression(state, kind, 10, 0, 0);
        }
        for (int wrong : new int[] {made, made + 1, -1, -2, Integer.MIN_VALUE, Integer.MAX_VALUE}) {
            wrongParts(state, wrong);
        }
        if (made > 0) {
            wrongOperations(state);
        }
    }

    private static void wrongParts(State state, int wrong) {
        for (int kind : new int[] {9, 14, 15, 22, 23}) {
            expression(state, kind, wrong, 0, 0);
        }
        for (int kind : new int[] {6, 7, 8, 10, 11, 12, 16, 17, 18, 24, 25}) {
            expression(state, kind, wrong, 0, 0);
            expression(state, kind, 0, wrong, 0);
        }
        expression(state, 4, 0, wrong, 0);
        expression(state, 5, 0, wrong, 0);
        expression(state, 13, 0, wrong, 0);
        expression(state, 13, 0, 0, wrong);
        expression(state, 19, wrong, 0, 0);
        expression(state, 20, wrong, NONE, NONE);
        if (wrong != NONE) {
            expression(state, 16, 0, 0, wrong);
            expression(state, 20, 0, wrong, NONE);
            expression(state, 20, 0, 0, wrong);
            expression(state, 20, 0, NONE, wrong);
        }
    }

    private static void wrongOperations(State state) {
        for (int[] kindAndWrong : new int[][] {{6, -1}, {6, 5}, {7, -1}, {7, 3}, {8, -1}, {8, 2}}) {
            expression(state, kindAndWrong[0], 0, 0, kindAndWrong[1]);
        }
        for (int[] parameters : new int[][] {{-1, 0}, {3, 0}, {1, -1}, {1, 10}, {2, -1}, {2, 9}, {2, 10},
            {2, Integer.MAX_VALUE}, {1, Integer.MIN_VALUE}, {Integer.MAX_VALUE, 0}, {Integer.MIN_VALUE, 0}}) {
            expression(state, 19, 0, parameters[0], parameters[1]);
        }
        expression(state, 20, 0, NONE, 0);
    }

    private static void noMoreExpressions(State state) {
        for (int kind = 0; kind <= 25; kind++) {
            int which = kind;
            refuses(state, IllegalStateException.class, "the 121st, kind " + kind,
                    language -> language.expression(which, 0, 0, 0));
        }
    }

    private static void runs(State state) {
        int made = made(state);
        for (int number : new int[] {made, made + 1, 120, -2}) {
            refuses(state, NoSuchElementException.class, "run " + number, language -> language.run(number));
        }
        for (int number : FAR_NUMBERS) {
            refuses(state, NoSuchElementException.class, "run " + number, language -> language.run(number));
        }
    }

    private static void elements(State state) {
        int size = lastSize(state);
        Class<? extends RuntimeException> want =
                size < 0 ? IllegalStateException.class : IndexOutOfBoundsException.class;
        refuses(state, want, "element behind the last", language -> language.element(Math.max(size, 0)));
        for (int k : FAR_NUMBERS) {
            refuses(state, want, "element " + k, language -> language.element(k));
        }
    }

    private static void variables(State state) {
        refuses(state, IllegalArgumentException.class, "variable 10", language -> language.variable(10));
        for (int variable : FAR_NUMBERS) {
            refuses(state, IllegalArgumentException.class, "variable " + variable, language -> language.variable(variable));
        }
    }

    private static void values(State state) {
        refuses(state, IllegalArgumentException.class, "value of 10", language -> language.value(10, 0));
        for (int number : FAR_NUMBERS) {
            refuses(state, IllegalArgumentException.class, "value of " + number, language -> language.value(number, 0));
            refuses(state, IllegalArgumentException.class, "value of " + number, language -> language.value(number, -1));
        }
        for (int variable = 0; variable <= 9; variable++) {
            int which = variable;
            refuses(state, NoSuchElementException.class, "value behind the last of " + variable,
                    language -> language.value(which, Math.max(language.variable(which), 0)));
            for (int k : FAR_NUMBERS) {
                refuses(state, NoSuchElementException.class, "value " + k + " of " + variable,
                        language -> language.value(which, k));
            }
        }
    }

    private static void counts(State state) {
        refuses(state, IllegalArgumentException.class, "count 4", language -> language.count(4));
        for (int what : FAR_NUMBERS) {
            refuses(state, IllegalArgumentException.class, "count " + what, language -> language.count(what));
        }
    }
}
