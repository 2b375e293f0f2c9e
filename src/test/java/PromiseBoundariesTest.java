import java.util.NoSuchElementException;
import java.util.stream.IntStream;

/** The boundary cases of promises 1 to 9, beside the refused calls: a method for each sentence. */
public final class PromiseBoundariesTest {
    private static final Check CHECK = new Check("PromiseBoundariesTest");
    private static final int NA = Script.NA;
    private static final int FAR = 1000000000;
    private static final int[] ANYTHING = {Integer.MIN_VALUE, -FAR, -2, -1, 0, 1, 26, 119, 120, Integer.MAX_VALUE};

    public static void main(String[] args) {
        stateThatTheTermsGive();
        uselessMayBeAnything();
        uselessParameterMayBeAnything();
        lastAndFirstThatCanBeNamed();
        makesOneHundredAndTwenty();
        answersHowManyElements();
        throwsForEachNumber();
        assignedBeforeStays();
        elementsFromZero();
        valueOfTheLastRunWithOne();
        functionIsTheLastValue();
        failureOfTheLastRun();
        variableHasNothing();
        valueOfTheFirstAndLast();
        resetOfNothing();
        resetOfAll();
        resetForgetsFunctions();
        resetLeavesTheLastRun();
        countsFromNothingToAll();
        countsOfTheLastRun();
        CHECK.end();
    }

    private static void stateThatTheTermsGive() {
        Script s = new Script(CHECK, "a new object, in the state that the terms give");
        CHECK.due("NA", -2147483648, VectorLanguage.NA);
        CHECK.due("all that can be asked", Snapshot.of(new VectorLanguage()), Snapshot.of(s.language));
        for (int what = 0; what <= 3; what++) {
            s.counts("count " + what, what, 0);
        }
        for (int variable = 0; variable <= 9; variable++) {
            s.hasNothing("variable " + variable, variable);
        }
        CHECK.answers("failure", 0, s.language::failure);
        CHECK.refuses("no last value", IllegalStateException.class, () -> s.language.element(0));
        CHECK.refuses("no expression 0", NoSuchElementException.class, () -> s.language.run(0));
        CHECK.refuses("no expression to name", IllegalArgumentException.class, () -> s.language.expression(9, 0, 0, 0));
        CHECK.answers("the first expression", 0, () -> s.language.expression(2, 0, 0, 0));
    }

    /** Tries all that an unused part may be, on a new object with the numbers 1 and 2 made as 0 and 1. */
    private static void mayBeAnything(String what, int firstUnused, int... parts) {
        for (int any : ANYTHING) {
            Script s = new Script(CHECK, "What a kind has no use for may be anything");
            s.vector(1, 2);
            int[] all = IntStream.rangeClosed(0, 3).map(k -> k >= firstUnused ? any : parts[k]).toArray();
            CHECK.answers(what + " with " + any, 3, () -> s.language.expression(all[0], all[1], all[2], all[3]));
            s.quietly(3);
            String outcome = Snapshot.of(s.language);
            Script plain = new Script(CHECK, "the same with 0");
            plain.vector(1, 2);
            int[] zeros = IntStream.rangeClosed(0, 3).map(k -> k >= firstUnused ? 0 : parts[k]).toArray();
            plain.quietly(plain.language.expression(zeros[0], zeros[1], zeros[2], zeros[3]));
            CHECK.due(what + " with " + any + " means the same", Snapshot.of(plain.language), outcome);
        }
    }

    private static void uselessMayBeAnything() {
        mayBeAnything("a number", 2, 0, 5);
        mayBeAnything("NA", 1, 1);
        mayBeAnything("NULL", 1, 2);
        mayBeAnything("a variable", 2, 3, 9);
        mayBeAnything("absence", 2, 21, 9);
        for (int kind : new int[] {9, 14, 15, 22, 23}) {
            mayBeAnything("kind " + kind, 2, kind, 0);
        }
        for (int kind : new int[] {4, 5, 10, 11, 12, 18, 24, 25}) {
            mayBeAnything("kind " + kind, 3, kind, 1, 0);
        }
        mayBeAnything("while", 3, 17, 0, 1);
    }

    private static void uselessParameterMayBeAnything() {
        for (int any : ANYTHING) {
            Script s = new Script(CHECK, "c for a function with b parameters: so that all are variables");
            int function = s.language.expression(19, s.number(4), 0, any);
            s.gives("none, c " + any, s.call(function), 4);
            s.fails("no parameter, c " + any, 6, s.call(function, 0));
        }
        for (int first = 0; first <= 9; first++) {
            Script s = new Script(CHECK, "one parameter, and two");
            s.gives("one, c " + first, s.call(s.function(s.get(first), 1, first), s.number(6)), 6);
            if (first < 9) {
                int both = s.function(s.join(s.get(first), s.get(first + 1)), 2, first);
                s.gives("two, c " + first, s.call(both, s.number(6), s.number(7)), 6, 7);
            }
        }
    }

    private static void lastAndFirstThatCanBeNamed() {
        Script s = new Script(CHECK, "those named must have been made before");
        int first = s.number(3);
        CHECK.refuses("itself", IllegalArgumentException.class, () -> s.language.expression(9, first + 1, 0, 0));
        int second = s.number(4);
        s.gives("the first and the last", s.join(first, second), 3, 4);
        CHECK.refuses("itself, as the second", IllegalArgumentException.class, () -> s.language.expression(10, 0, 3, 0));
        CHECK.answers("the one before", 3, () -> s.language.expression(10, 0, 2, 0));
        s.gives("the one before", 3, 3, 3, 4);
    }

    private static void makesOneHundredAndTwenty() {
        Script s = new Script(CHECK, "EXPRESSIONS 0 .. 119; IllegalStateException: 120 were made");
        for (int number = 0; number <= 119; number++) {
            int want = number;
            CHECK.answers("expression " + number, want, () -> s.language.expression(0, want, 0, 0));
            s.counts("made", 0, number + 1);
        }
        for (int number : new int[] {0, 1, 118, 119}) {
            s.gives("run " + number, number, number);
        }
        CHECK.refuses("one more", IllegalStateException.class, () -> s.language.expression(9, 119, 0, 0));
        CHECK.refuses("no more to run", NoSuchElementException.class, () -> s.language.run(120));
        s.language.reset();
        CHECK.refuses("one more after a reset", IllegalStateException.class, () -> s.language.expression(2, 0, 0, 0));
        s.gives("they are still there", 119, 119);
    }

    private static void answersHowManyElements() {
        Script s = new Script(CHECK, "answers how many elements its value has, -1 for a function");
        s.gives("NULL", s.nothing());
        for (int length = 1; length <= 16; length++) {
            s.gives("length " + length, s.range(s.number(1), s.number(length)), IntStream.rangeClosed(1, length).toArray());
        }
        s.givesFunction("a function", s.function(0, 2, 8));
    }

    private static void throwsForEachNumber() {
        for (int from = 0; from <= 99; from += 20) {
            Script s = new Script(CHECK, "100 and more: ArithmeticException");
            for (int number = from; number < from + 20; number++) {
                s.fails("raised " + number, 100 + number, s.raise(s.number(number)));
            }
        }
    }

    /** Expressions that fail with 1 .. 9 and 104, by their place. */
    private static int[] failing(Script s) {
        int one = s.number(1);
        int function = s.function(one, 0, 0);
        int read = s.get(0);
        int reader = s.function(s.then(s.setAround(1, s.function(read, 0, 0)), read), 1, 0);
        return new int[] {s.range(one, s.number(17)), s.call(reader, s.call(s.get(1))), s.not(function), s.get(8),
            s.range(s.nothing(), one), s.call(function, one), s.choose(s.nothing(), one, one),
            s.pick(one, s.vector(1, -1)), s.repeat(one, one), s.raise(s.number(4))};
    }

    private static void assignedBeforeStays() {
        Script s = new Script(CHECK, "What was assigned before stays");
        int[] failing = failing(s);
        for (int k = 0; k < failing.length; k++) {
            int failure = k < 9 ? k + 1 : 104;
            int before = s.then(s.set(5, s.number(k)), s.replace(6, s.number(1), s.number(k)));
            s.fails("failure " + failure, failure, s.then(before, failing[k]));
            s.has("assigned", 5, k);
            s.has("replaced", 6, k);
        }
    }

    private static void elementsFromZero() {
        for (int length = 0; length <= 16; length++) {
            Script s = new Script(CHECK, "The element k (from 0); there is no such element");
            int vector = length == 0 ? s.nothing() : s.range(s.number(101), s.number(100 + length));
            s.quietly(vector);
            for (int k = -2; k <= 18; k++) {
                int place = k;
                if (k >= 0 && k < length) {
                    CHECK.answers(k + " of " + length, 101 + k, () -> s.language.element(place));
                } else {
                    CHECK.refuses(k + " of " + length, IndexOutOfBoundsException.class, () -> s.language.element(place));
                }
            }
        }
        Script s = new Script(CHECK, "NA as NA");
        s.gives("NA", s.vector(1, NA, 3), 1, NA, 3);
    }

    private static void valueOfTheLastRunWithOne() {
        Script s = new Script(CHECK, "of the value of the last run that ended with one");
        int[] failing = failing(s);
        s.fails("no value yet", 4, s.get(7));
        CHECK.refuses("no value yet", IllegalStateException.class, () -> s.language.element(0));
        s.gives("a value", s.vector(5, 6), 5, 6);
        for (int expression : failing) {
            s.quietly(expression);
            CHECK.answers("the value before a failure", 6, () -> s.language.element(1));
        }
        CHECK.refuses("no run", NoSuchElementException.class, () -> s.language.run(119));
        CHECK.answers("the value before no run", 5, () -> s.language.element(0));
        s.gives("the run's own end", s.then(s.end(s.number(9)), s.number(1)), 9);
        s.gives("NULL is a value", s.nothing());
    }

    private static void functionIsTheLastValue() {
        Script s = new Script(CHECK, "IllegalStateException: there was none, or it is a function");
        int number = s.number(5);
        s.quietly(number);
        s.givesFunction("a function", s.function(number, 0, 0));
        for (int k : new int[] {-1, 0, 1, 16}) {
            CHECK.refuses("element " + k, IllegalStateException.class, () -> s.language.element(k));
        }
        s.fails("a failure behind it", 4, s.get(3));
        CHECK.refuses("still a function", IllegalStateException.class, () -> s.language.element(0));
        s.gives("a number again", number, 5);
        s.language.reset();
        CHECK.refuses("none after a reset", IllegalStateException.class, () -> s.language.element(0));
        s.fails("a failure after a reset", 4, s.get(3));
        CHECK.refuses("still none", IllegalStateException.class, () -> s.language.element(0));
    }

    private static void failureOfTheLastRun() {
        Script s = new Script(CHECK, "0 if it ended with a value, or before the first one");
        int[] failing = failing(s);
        int number = s.number(5);
        CHECK.answers("before the first run", 0, s.language::failure);
        for (int k = 0; k < failing.length; k++) {
            s.fails("run " + k, k < 9 ? k + 1 : 104, failing[k]);
            s.gives("a value behind it", number, 5);
        }
        s.fails("the last one", 4, s.get(7));
        CHECK.refuses("no run", NoSuchElementException.class, () -> s.language.run(-1));
        CHECK.answers("is no run", 4, s.language::failure);
        s.language.reset();
        CHECK.answers("a reset is no run", 4, s.language::failure);
        s.gives("a caught failure", s.attempt(s.get(7), number), 5);
        s.gives("an ended run", s.end(number), 5);
        s.givesFunction("a function", s.function(number, 0, 0));
        s.gives("NULL", s.nothing());
    }

    private static void variableHasNothing() {
        for (int variable = 0; variable <= 9; variable++) {
            Script s = new Script(CHECK, "-2 if it has nothing, -1 if it has a function, else how many elements");
            int which = variable;
            s.hasNothing("nothing", variable);
            s.quietly(s.set(variable, s.nothing()));
            s.has("NULL", variable);
            s.quietly(s.set(variable, s.function(0, 0, 0)));
            CHECK.answers("a function", -1, () -> s.language.variable(which));
            s.quietly(s.set(variable, s.range(s.number(1), s.number(16))));
            CHECK.answers("sixteen", 16, () -> s.language.variable(which));
            for (int other = 0; other <= 9; other++) {
                int another = other;
                CHECK.answers("variable " + other, other == which ? 16 : -2, () -> s.language.variable(another));
            }
        }
        Script s = new Script(CHECK, "in the global environment");
        s.gives("a call's own", s.call(s.function(s.set(9, s.get(0)), 1, 0), s.number(5)), 5);
        s.hasNothing("its parameter", 0);
        s.hasNothing("its variable", 9);
    }

    private static void valueOfTheFirstAndLast() {
        for (int variable = 0; variable <= 9; variable += 9) {
            Script s = new Script(CHECK, "The element k of the vector that it has");
            int which = variable;
            s.quietly(s.set(variable, s.range(s.number(16), s.number(1))));
            CHECK.answers("the first", 16, () -> s.language.value(which, 0));
            CHECK.answers("the last", 1, () -> s.language.value(which, 15));
            CHECK.refuses("before", NoSuchElementException.class, () -> s.language.value(which, -1));
            CHECK.refuses("behind", NoSuchElementException.class, () -> s.language.value(which, 16));
            s.quietly(s.set(variable, s.na()));
            CHECK.answers("NA", NA, () -> s.language.value(which, 0));
            CHECK.refuses("behind one", NoSuchElementException.class, () -> s.language.value(which, 1));
            s.quietly(s.set(variable, s.nothing()));
            CHECK.refuses("of NULL", NoSuchElementException.class, () -> s.language.value(which, 0));
            s.quietly(s.set(variable, s.function(0, 0, 0)));
            CHECK.refuses("of a function", NoSuchElementException.class, () -> s.language.value(which, 0));
            CHECK.refuses("of nothing", NoSuchElementException.class, () -> s.language.value(5, 0));
        }
    }

    private static void resetOfNothing() {
        Script s = new Script(CHECK, "answers how many had been");
        CHECK.answers("of a new object", 0, s.language::reset);
        CHECK.due("which is as new", Snapshot.of(new VectorLanguage()), Snapshot.of(s.language));
        int call = s.call(s.function(s.number(1), 0, 0));
        s.quietly(call);
        CHECK.answers("of one", 1, s.language::reset);
        CHECK.answers("of none", 0, s.language::reset);
        s.quietly(s.plus(call, call));
        s.quietly(call);
        CHECK.answers("of two runs", 3, s.language::reset);
    }

    private static void resetOfAll() {
        Script s = new Script(CHECK, "no others have been made");
        int call = s.call(s.function(s.number(1), 0, 0));
        for (int made = 0; made < 90; made++) {
            s.quietly(call);
        }
        s.fails("no more", 9, call);
        CHECK.answers("ninety", 90, s.language::reset);
        s.counts("none", 1, 0);
        for (int made = 1; made <= 90; made++) {
            s.quietly(call);
            s.counts("made anew", 1, made);
        }
        s.fails("no more again", 9, call);
        CHECK.answers("ninety again", 90, s.language::reset);
    }

    private static void resetForgetsFunctions() {
        Script s = new Script(CHECK, "The global environment has nothing any more");
        int number = s.number(1);
        int reader = s.set(3, s.function(s.get(4), 0, 0));
        for (int variable = 0; variable <= 9; variable++) {
            s.quietly(s.set(variable, number));
        }
        s.givesFunction("a function", reader);
        s.gives("that reads", s.call(s.get(3)), 1);
        s.language.reset();
        for (int variable = 0; variable <= 9; variable++) {
            s.hasNothing("variable " + variable, variable);
        }
        s.fails("no function to call", 4, s.call(s.get(3)));
        s.givesFunction("made anew", reader);
        s.fails("nothing to read", 4, s.call(s.get(3)));
        s.gives("replaced in nothing", s.replace(4, s.number(2), number), 1);
        s.has("replaced in nothing", 4, NA, 1);
    }

    private static void resetLeavesTheLastRun() {
        Script s = new Script(CHECK, "steps of the last run (2), arguments evaluated in it (3); failure() of it");
        s.fails("a run", 3, s.call(s.function(s.not(s.get(0)), 1, 0), s.function(s.number(1), 0, 0)));
        s.counts("steps", 2, 5);
        s.counts("arguments", 3, 1);
        CHECK.answers("one environment", 1, s.language::reset);
        s.counts("steps after the reset", 2, 5);
        s.counts("arguments after the reset", 3, 1);
        s.counts("environments after the reset", 1, 0);
        s.counts("expressions after the reset", 0, 6);
        CHECK.answers("failure after the reset", 3, s.language::failure);
    }

    private static void countsFromNothingToAll() {
        Script s = new Script(CHECK, "environments made since the last reset, the global one not counted");
        s.quietly(s.number(1));
        s.counts("none for the global one", 1, 0);
        s.quietly(s.call(s.function(0, 0, 0)));
        s.counts("one", 1, 1);
        s.fails("a failing call", 4, s.call(s.function(s.get(7), 0, 0)));
        s.counts("is one too", 1, 2);
        s.gives("an ended call", s.call(s.function(s.end(0), 0, 0)), 1);
        s.counts("is one too", 1, 3);
        s.fails("a wrong call", 6, s.call(s.function(0, 0, 0), 0));
        s.counts("is none", 1, 3);
    }

    private static void countsOfTheLastRun() {
        Script s = new Script(CHECK, "steps of the last run (2), arguments evaluated in the last run to a value (3)");
        int read = s.get(0);
        int two = s.call(s.function(s.join(read, s.get(1)), 2, 0), s.number(5), s.number(6));
        s.gives("two arguments", two, 5, 6);
        s.counts("steps", 2, 7);
        s.counts("arguments", 3, 2);
        s.fails("one of two fails", 4, s.call(s.function(s.join(read, s.get(1)), 2, 0), s.number(5), s.get(7)));
        s.counts("steps", 2, 7);
        s.counts("one to a value", 3, 1);
        s.gives("the last run alone", s.number(5), 5);
        s.counts("one step", 2, 1);
        s.counts("no argument", 3, 0);
    }
}
