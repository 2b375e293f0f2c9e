/** The boundary cases of conditions and of kinds 16 to 18, 23 and 24: a method for each sentence of the terms. */
public final class ControlBoundariesTest {
    private static final Check CHECK = new Check("ControlBoundariesTest");
    private static final int NA = Script.NA;
    private static final int FAR = 1000000000;

    public static void main(String[] args) {
        conditionByTheFirstElement();
        conditionWithoutAnElement();
        ifWithoutElse();
        whileNever();
        whileAgainAndAgain();
        raisedInRange();
        raisedOutOfRange();
        caughtEachFailure();
        caughtButTheLimits();
        caughtWithoutAFailure();
        caughtInItsEnvironment();
        CHECK.end();
    }

    private static void conditionByTheFirstElement() {
        Script s = new Script(CHECK, "CONDITIONS go by the first element: not 0 is true");
        int yes = s.number(1);
        int no = s.number(2);
        for (int first : new int[] {1, -1, FAR, -FAR}) {
            s.gives("first " + first, s.choose(s.number(first), yes, no), 1);
            s.gives("first " + first + ", then 0 and NA", s.choose(s.vector(first, 0, NA), yes, no), 1);
        }
        s.gives("0", s.choose(s.number(0), yes, no), 2);
        s.gives("0, then others", s.choose(s.vector(0, 1, NA), yes, no), 2);
    }

    private static void conditionWithoutAnElement() {
        for (int kind = 16; kind <= 17; kind++) {
            Script s = new Script(CHECK, "CONDITIONS NULL or NA: FAILURE 7, kind " + kind);
            int assigning = s.set(1, s.number(1));
            for (int wrong : new int[] {s.nothing(), s.na(), s.vector(NA, 1), s.vector(NA, 0)}) {
                s.fails("condition", 7, s.language.expression(kind, wrong, assigning, assigning));
            }
            s.hasNothing("neither part was evaluated", 1);
            s.fails("a function", 3, s.language.expression(kind, s.function(assigning, 0, 0), assigning, assigning));
            s.fails("a failing one", 4, s.language.expression(kind, s.get(8), assigning, assigning));
            s.hasNothing("neither part was evaluated", 1);
        }
    }

    private static void ifWithoutElse() {
        Script s = new Script(CHECK, "16 if a, b, else c (-1: NULL)");
        int one = s.number(1);
        s.gives("false", s.choose(s.number(0), one, Script.NONE));
        s.counts("the NULL is no step", 2, 2);
        s.gives("true", s.choose(one, s.number(5), Script.NONE), 5);
        int assigning = s.set(1, one);
        s.gives("b alone", s.choose(one, one, assigning), 1);
        s.gives("c alone", s.choose(s.number(0), assigning, one), 1);
        s.hasNothing("the other one is left out", 1);
    }

    private static void whileNever() {
        Script s = new Script(CHECK, "17 while a, b again and again: NULL");
        int assigning = s.set(1, s.number(1));
        s.gives("not once", s.repeat(s.number(0), assigning));
        s.hasNothing("not once", 1);
        s.counts("the condition alone", 2, 2);
    }

    private static void whileAgainAndAgain() {
        Script s = new Script(CHECK, "17 the condition is evaluated before each round");
        int less = s.set(0, s.arithmetic(1, s.get(0), s.number(1)));
        int loop = s.repeat(s.get(0), less);
        s.quietly(s.set(0, s.number(3)));
        s.gives("three rounds", loop);
        s.counts("four conditions, three bodies of four", 2, 17);
        s.has("until 0", 0, 0);
        s.quietly(s.set(0, s.number(79)));
        s.gives("as many as the steps suffice for", loop);
        s.counts("79 rounds and a condition", 2, 397);
        s.quietly(s.set(0, s.number(80)));
        s.fails("one more", 9, loop);
        s.has("the last round was not ended", 0, 1);
    }

    private static void raisedInRange() {
        for (int number = 0; number <= 99; number += 33) {
            Script s = new Script(CHECK, "23 the FAILURE 100 + the first element of a, if that is 0 .. 99");
            s.fails("" + number, 100 + number, s.raise(s.number(number)));
            s.fails(number + " and others", 100 + number, s.raise(s.vector(number, NA, 5)));
        }
        for (int number : new int[] {1, 98}) {
            Script s = new Script(CHECK, "23 next to the ends");
            s.fails("" + number, 100 + number, s.raise(s.number(number)));
        }
    }

    private static void raisedOutOfRange() {
        Script s = new Script(CHECK, "23 else 100");
        for (int number : new int[] {-1, 100, 101, 109, FAR, -FAR, -91}) {
            s.fails("" + number, 100, s.raise(s.number(number)));
        }
        s.fails("NA", 100, s.raise(s.na()));
        s.fails("NA first", 100, s.raise(s.vector(NA, 5)));
        s.fails("NULL", 100, s.raise(s.nothing()));
        s.fails("a function", 3, s.raise(s.function(s.number(1), 0, 0)));
    }

    private static void caught(Script s, int failure, int failing) {
        s.gives("caught " + failure, s.attempt(failing, s.get(9)), failure);
        s.has("the variable 9", 9, failure);
    }

    private static void caughtEachFailure() {
        Script s = new Script(CHECK, "24 if it ends with a failure other than 9, that of b");
        int one = s.number(1);
        int function = s.function(one, 0, 0);
        caught(s, 1, s.range(one, s.number(17)));
        int read = s.get(0);
        int reader = s.function(s.then(s.setAround(1, s.function(read, 0, 0)), read), 1, 0);
        caught(s, 2, s.call(reader, s.call(s.get(1))));
        caught(s, 3, s.not(function));
        caught(s, 4, s.get(8));
        caught(s, 5, s.range(s.na(), one));
        caught(s, 6, s.call(function, one));
        caught(s, 7, s.choose(s.na(), one, one));
        caught(s, 8, s.pick(one, s.vector(1, -1)));
        caught(s, 100, s.raise(s.number(0)));
        caught(s, 109, s.raise(s.number(9)));
        caught(s, 199, s.raise(s.number(99)));
    }

    private static void caughtButTheLimits() {
        Script s = new Script(CHECK, "24 a failure 9 is not caught");
        int one = s.number(1);
        int handler = s.set(0, one);
        s.fails("steps", 9, s.attempt(s.repeat(one, one), handler));
        s.quietly(s.set(5, s.function(s.call(s.get(5)), 0, 0)));
        s.fails("one within another", 9, s.attempt(s.call(s.get(5)), handler));
        s.quietly(s.set(5, s.function(one, 0, 0)));
        s.fails("environments", 9, s.attempt(s.repeat(s.call(s.get(5)), one), handler));
        s.counts("as many as can be", 1, 90);
        s.fails("in a handler within", 9, s.attempt(s.attempt(s.get(8), s.repeat(one, one)), handler));
        s.hasNothing("no handler", 0);
        s.has("the number of the inner one alone", 9, 4);
    }

    private static void caughtWithoutAFailure() {
        Script s = new Script(CHECK, "24 the value a");
        int handler = s.set(0, s.number(1));
        s.gives("a vector", s.attempt(s.number(5), handler), 5);
        s.gives("NULL", s.attempt(s.nothing(), handler));
        s.givesFunction("a function", s.attempt(s.function(handler, 0, 0), handler));
        s.gives("an ended run", s.attempt(s.end(s.number(6)), handler), 6);
        s.hasNothing("no handler", 0);
        s.hasNothing("no number", 9);
        s.fails("a failure in the handler is not caught by it", 102, s.attempt(s.get(8), s.raise(s.number(2))));
        s.has("the number of the first one", 9, 4);
    }

    private static void caughtInItsEnvironment() {
        Script s = new Script(CHECK, "24 the variable 9 of E being the failure's number before");
        int number = s.get(9);
        int failing = s.raise(s.number(1));
        s.gives("of a call", s.call(s.function(s.attempt(failing, number), 0, 0)), 101);
        s.hasNothing("not of the global one", 9);
        s.gives("over a parameter", s.call(s.function(s.attempt(failing, number), 1, 9), s.get(8)), 101);
        s.counts("whose argument is never evaluated", 3, 0);
        s.gives("of the global one", s.attempt(s.call(s.function(failing, 0, 0)), number), 101);
        s.has("of the global one", 9, 101);
    }
}
