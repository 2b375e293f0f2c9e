import java.util.stream.IntStream;

/** The boundary cases of environments, arguments, calls and kinds 3 to 5 and 19 to 22: a method for each sentence. */
public final class CallBoundariesTest {
    private static final Check CHECK = new Check("CallBoundariesTest");
    private static final int NA = Script.NA;

    public static void main(String[] args) {
        upToTheFirstThatHasSomething();
        notLookedUp();
        nothingForAParameterWithout();
        assignedInItsOwnAlone();
        assignedAroundNearest();
        assignedAroundInTheGlobalOne();
        evaluatedInItsEnvironment();
        evaluatedTheFirstTimeAlone();
        wantedWithinItself();
        wantedWithinItselfByAnother();
        asBeforeAfterAFailure();
        asBeforeAfterTheLimit();
        asBeforeAfterAnEnd();
        callOfNoFunction();
        moreArgumentsThanParameters();
        wrongCallMakesNoEnvironment();
        withoutAnArgument();
        withoutACall();
        noParameterOfItsFunction();
        endsTheCallWithoutTheRest();
        endsWhatIsOver();
        endsTheWholeRun();
        madeByOneEvaluation();
        CHECK.end();
    }

    private static void upToTheFirstThatHasSomething() {
        Script s = new Script(CHECK, "LOOKED UP .. up to the first that has something");
        int read = s.get(2);
        int inner = s.call(s.function(read, 0, 0));
        s.quietly(s.set(2, s.number(1)));
        s.gives("three environments up", s.call(s.function(s.call(s.function(inner, 0, 0)), 0, 0)), 1);
        s.gives("two up", s.call(s.function(s.then(s.set(2, s.number(4)), s.call(s.function(inner, 0, 0))), 0, 0)), 4);
        s.gives("NULL is something", s.call(s.function(s.then(s.set(2, s.nothing()), inner), 0, 0)));
        s.givesFunction("a function is something", s.call(s.function(s.then(s.set(2, s.function(read, 0, 0)), inner), 0, 0)));
        s.gives("an argument is something", s.call(s.function(inner, 1, 2), s.na()), NA);
    }

    private static void notLookedUp() {
        for (int variable = 0; variable <= 9; variable++) {
            Script s = new Script(CHECK, "3 not looked up: FAILURE 4");
            int read = s.get(variable);
            s.fails("in the global one", 4, read);
            s.fails("in a call", 4, s.call(s.function(read, 0, 0)));
            s.fails("in its argument", 4, s.call(s.function(s.get(3), 1, 3), read));
            s.hasNothing("nothing came of it", variable);
        }
    }

    private static void nothingForAParameterWithout() {
        Script s = new Script(CHECK, "nothing for a parameter without");
        int both = s.function(s.join(s.get(4), s.get(5)), 2, 4);
        s.fails("none is found", 4, s.call(both));
        s.quietly(s.set(5, s.number(50)));
        s.gives("the second one outside", s.call(both, s.number(1)), 1, 50);
        s.quietly(s.set(4, s.number(40)));
        s.gives("both outside", s.call(both), 40, 50);
        s.gives("neither", s.call(both, s.number(1), s.number(2)), 1, 2);
    }

    private static void assignedInItsOwnAlone() {
        Script s = new Script(CHECK, "4 the variable a of E becomes the value b");
        int assigned = s.set(1, s.number(2));
        s.gives("over nothing", s.call(s.function(assigned, 0, 0)), 2);
        s.hasNothing("not outside", 1);
        s.quietly(s.set(1, s.number(8)));
        s.gives("not over that outside", s.call(s.function(assigned, 0, 0)), 2);
        s.has("outside", 1, 8);
        s.gives("over an argument", s.call(s.function(s.then(assigned, s.get(1)), 1, 1), s.get(7)), 2);
        s.counts("which is never evaluated", 3, 0);
    }

    private static void assignedAroundNearest() {
        Script s = new Script(CHECK, "5 nearest around, beginning with that which E is in");
        int around = s.setAround(1, s.number(2));
        int inner = s.call(s.function(s.then(s.set(1, s.number(5)), around, s.get(1)), 0, 0));
        s.gives("not that of E", s.call(s.function(s.then(s.set(1, s.number(6)), s.join(inner, s.get(1))), 0, 0)), 5, 2);
        s.hasNothing("not the global one", 1);
        int past = s.call(s.function(s.call(s.function(around, 1, 1)), 1, 1));
        s.gives("past those that have nothing", s.call(s.function(s.then(past, s.get(1)), 1, 1), s.get(7)), 2);
        s.hasNothing("an argument is something", 1);
        s.gives("none has something: the global one", past, 2);
        s.has("the global one", 1, 2);
    }

    private static void assignedAroundInTheGlobalOne() {
        Script s = new Script(CHECK, "5 E itself, if it is the global one");
        s.gives("nothing there", s.setAround(9, s.number(1)), 1);
        s.has("nothing there", 9, 1);
        s.gives("something there", s.setAround(9, s.nothing()));
        s.has("something there", 9);
        s.fails("no value", 4, s.setAround(9, s.get(0)));
        s.has("as before", 9);
    }

    private static void evaluatedInItsEnvironment() {
        Script s = new Script(CHECK, "An ARGUMENT is an expression and the environment to evaluate it in");
        int both = s.join(s.get(0), s.get(1));
        s.quietly(s.set(0, s.number(10)));
        s.quietly(s.set(1, s.number(20)));
        s.quietly(s.set(2, s.function(both, 2, 0)));
        int swapped = s.call(s.get(2), s.get(1), s.get(0));
        s.gives("the global one", swapped, 20, 10);
        s.gives("that of a call", s.call(s.function(swapped, 2, 0), s.number(3), s.number(4)), 4, 3);
        s.counts("all four were evaluated", 3, 4);
        int assigning = s.call(s.get(2), s.set(0, s.number(5)), s.set(1, s.number(6)));
        s.gives("assigned there", assigning, 5, 6);
        s.has("assigned there", 0, 5);
        s.has("assigned there", 1, 6);
    }

    /** How often an argument is evaluated that counts in variable 1 and then has this value. */
    private static void evaluatedOnce(String what, int size, Script s, int value) {
        int counting = s.then(s.set(1, s.plus(s.get(1), s.number(1))), value);
        int read = s.get(0);
        s.quietly(s.set(1, s.number(0)));
        CHECK.answers(what, size, () -> s.language.run(s.call(s.function(s.then(read, read, read), 1, 0), counting)));
        s.has(what, 1, 1);
        s.counts(what, 3, 1);
    }

    private static void evaluatedTheFirstTimeAlone() {
        Script s = new Script(CHECK, "the first time that its value is wanted it is evaluated, and it has that value");
        evaluatedOnce("a number", 1, s, s.number(3));
        evaluatedOnce("NULL", 0, s, s.nothing());
        evaluatedOnce("NA", 1, s, s.na());
        evaluatedOnce("a function", -1, s, s.function(s.number(3), 0, 0));
        s.quietly(s.set(2, s.number(5)));
        int changing = s.join(s.get(0), s.then(s.setAround(2, s.number(6)), s.get(0)));
        s.gives("from then on", s.call(s.function(changing, 1, 0), s.get(2)), 5, 5);
        s.gives("never wanted", s.call(s.function(s.number(7), 1, 0), s.set(3, s.number(1))), 7);
        s.hasNothing("never wanted", 3);
        s.counts("never wanted", 3, 0);
    }

    private static void wantedWithinItself() {
        Script s = new Script(CHECK, "wanted while it is being evaluated: FAILURE 2");
        int read = s.get(0);
        int known = s.setAround(1, s.function(read, 0, 0));
        int wanting = s.call(s.get(1));
        int reader = s.function(s.then(known, read), 1, 0);
        s.fails("at once", 2, s.call(reader, wanting));
        s.counts("no value", 3, 0);
        s.fails("in another run", 2, wanting);
        s.gives("caught inside", s.call(reader, s.attempt(wanting, s.number(5))), 5);
        s.counts("a value", 3, 1);
        s.has("its number", 9, 2);
        s.gives("a value is known now", wanting, 5);
        s.counts("without evaluating", 3, 0);
        int replacing = s.function(s.then(s.setAround(1, s.function(s.replace(0, s.number(1), s.number(1)), 0, 0)), read),
                1, 0);
        s.fails("by a replacement", 2, s.call(replacing, wanting));
    }

    private static void wantedWithinItselfByAnother() {
        Script s = new Script(CHECK, "wanted through another argument");
        int readers = s.then(s.setAround(6, s.function(s.get(0), 0, 0)), s.setAround(7, s.function(s.get(1), 0, 0)));
        int wantFirst = s.call(s.get(6));
        int wantSecond = s.call(s.get(7));
        int both = s.function(s.then(readers, s.get(0)), 2, 0);
        s.fails("each the other", 2, s.call(both, wantSecond, wantFirst));
        s.gives("the other one caught it", s.call(both, wantSecond, s.attempt(wantFirst, s.get(9))), 2);
        s.counts("both have values", 3, 2);
        s.gives("one alone", s.call(both, wantSecond, s.number(4)), 4);
    }

    private static void asBeforeAfterAFailure() {
        Script s = new Script(CHECK, "If its evaluation ends without a value, it is as before: a failure");
        int read = s.get(0);
        int repaired = s.attempt(read, s.then(s.setAround(1, s.number(5)), read));
        s.gives("evaluated again", s.call(s.function(repaired, 1, 0), s.get(1)), 5);
        s.counts("once to a value", 3, 1);
        int failing = s.attempt(read, s.attempt(read, s.join(s.get(9), s.number(1))));
        s.gives("failing again", s.call(s.function(failing, 1, 0), s.raise(s.number(3))), 103, 1);
        s.counts("never to a value", 3, 0);
    }

    private static void asBeforeAfterTheLimit() {
        Script s = new Script(CHECK, "If its evaluation ends without a value, it is as before: a limit");
        int read = s.get(0);
        int reader = s.function(s.then(s.setAround(1, s.function(read, 0, 0)), read), 1, 0);
        int endless = s.then(s.repeat(s.get(2), s.number(1)), s.number(8));
        int again = s.call(s.get(1));
        s.quietly(s.set(2, s.number(1)));
        s.fails("too many steps", 9, s.call(reader, endless));
        s.fails("again", 9, again);
        s.quietly(s.set(2, s.number(0)));
        s.gives("then to a value", again, 8);
        s.counts("then to a value", 3, 1);
    }

    private static void asBeforeAfterAnEnd() {
        Script s = new Script(CHECK, "If its evaluation ends without a value, it is as before: an end");
        int read = s.get(0);
        int reader = s.function(s.then(s.setAround(1, s.function(read, 0, 0)), read), 1, 0);
        int again = s.call(s.get(1));
        int once = s.choose(s.get(2), s.end(s.number(70)), s.number(8));
        s.quietly(s.set(2, s.number(1)));
        s.gives("the run ends", s.then(s.call(reader, once), s.number(1)), 70);
        s.counts("no value", 3, 0);
        s.gives("it ends again", again, 70);
        s.quietly(s.set(2, s.number(0)));
        s.gives("then to a value", again, 8);
        s.counts("then to a value", 3, 1);
    }

    private static void callOfNoFunction() {
        Script s = new Script(CHECK, "CALLS: a is no function: FAILURE 3");
        int one = s.number(1);
        for (int no : new int[] {one, s.nothing(), s.na(), s.vector(1, 2)}) {
            s.fails("without arguments", 3, s.call(no));
            s.fails("with one", 3, s.call(no, s.set(1, one)));
            s.fails("with two", 3, s.call(no, s.set(1, one), s.set(1, one)));
        }
        s.hasNothing("no argument was evaluated", 1);
        s.fails("failing itself", 4, s.call(s.get(5)));
    }

    private static void moreArgumentsThanParameters() {
        for (int parameters = 0; parameters <= 2; parameters++) {
            for (int arguments = 0; arguments <= 2; arguments++) {
                Script s = new Script(CHECK, "More arguments than parameters: FAILURE 6");
                int function = s.function(s.number(3), parameters, 8);
                int argument = s.set(1, s.number(1));
                int call = s.language.expression(20, function, arguments > 0 ? argument : -1, arguments > 1 ? argument : -1);
                if (arguments > parameters) {
                    s.fails(arguments + " for " + parameters, 6, call);
                } else {
                    s.gives(arguments + " for " + parameters, call, 3);
                }
                s.hasNothing("no argument was evaluated", 1);
            }
        }
    }

    private static void wrongCallMakesNoEnvironment() {
        Script s = new Script(CHECK, "a wrong call makes no environment");
        int one = s.number(1);
        s.fails("no function", 3, s.call(one, one));
        s.fails("too many", 6, s.call(s.function(one, 0, 0), one));
        s.counts("none", 1, 0);
        s.fails("a failing body", 4, s.call(s.function(s.get(7), 0, 0)));
        s.counts("one", 1, 1);
    }

    private static void withoutAnArgument() {
        for (int parameters = 1; parameters <= 2; parameters++) {
            for (int arguments = 0; arguments <= parameters; arguments++) {
                Script s = new Script(CHECK, "21 1 if the call had no argument for its parameter a, else 0");
                int first = 10 - parameters;
                int asked = parameters == 1 ? s.absent(9) : s.join(s.absent(8), s.absent(9));
                int function = s.function(asked, parameters, first);
                int failing = s.get(0);
                int call = s.language.expression(20, function, arguments > 0 ? failing : -1, arguments > 1 ? failing : -1);
                int given = arguments;
                s.gives(arguments + " of " + parameters, call,
                        IntStream.range(0, parameters).map(k -> k < given ? 0 : 1).toArray());
                s.counts("none was evaluated", 3, 0);
            }
        }
        Script s = new Script(CHECK, "21 of the call, not of what the variable has since");
        int assigned = s.then(s.set(0, s.nothing()), s.absent(0));
        s.gives("assigned without an argument", s.call(s.function(assigned, 1, 0)), 1);
        s.gives("assigned over an argument", s.call(s.function(assigned, 1, 0), s.nothing()), 0);
    }

    private static void withoutACall() {
        for (int variable = 0; variable <= 9; variable++) {
            Script s = new Script(CHECK, "21 E is the global one: FAILURE 6");
            int asked = s.absent(variable);
            s.fails("at once", 6, asked);
            s.fails("as an argument from there", 6, s.call(s.function(s.get(variable), 1, variable), asked));
        }
    }

    private static void noParameterOfItsFunction() {
        for (int parameters = 0; parameters <= 2; parameters++) {
            for (int variable = 0; variable <= 9; variable++) {
                Script s = new Script(CHECK, "21 a is no parameter of its function: FAILURE 6");
                int call = s.call(s.function(s.absent(variable), parameters, 4));
                if (variable >= 4 && variable < 4 + parameters) {
                    s.gives("parameter " + variable, call, 1);
                } else {
                    s.fails("variable " + variable + " with " + parameters, 6, call);
                }
            }
        }
        Script s = new Script(CHECK, "21 a parameter of the call around");
        int inner = s.call(s.function(s.absent(4), 1, 5));
        s.fails("is none of this one", 6, s.call(s.function(inner, 1, 4), s.number(1)));
    }

    private static void endsTheCallWithoutTheRest() {
        Script s = new Script(CHECK, "22 ends the call that E was made for, without any of the rest of it");
        int three = s.number(3);
        int ended = s.end(three);
        int rest = s.setAround(1, three);
        s.gives("behind it", s.call(s.function(s.then(ended, rest), 0, 0)), 3);
        s.gives("the second part", s.call(s.function(s.plus(ended, rest), 0, 0)), 3);
        s.gives("the handler", s.call(s.function(s.attempt(ended, rest), 0, 0)), 3);
        s.gives("the next round", s.call(s.function(s.repeat(three, s.then(ended, rest)), 0, 0)), 3);
        s.gives("the call of it", s.call(s.function(s.call(ended, rest), 0, 0)), 3);
        int within = s.function(s.then(s.get(0), rest), 1, 0);
        s.gives("the call that wanted it", s.call(s.function(s.then(s.call(within, ended), rest), 0, 0)), 3);
        s.hasNothing("no rest at all", 1);
        s.gives("but that behind the call", s.then(s.call(s.function(ended, 0, 0)), rest), 3);
        s.has("evaluated", 1, 3);
        s.fails("no value, no end", 4, s.call(s.function(s.end(s.get(7)), 0, 0)));
    }

    private static void endsWhatIsOver() {
        Script s = new Script(CHECK, "22 if that call is over already: FAILURE 6");
        int ending = s.end(s.set(2, s.number(1)));
        int keeper = s.function(s.setAround(5, s.function(s.get(0), 0, 0)), 1, 0);
        int keep = s.call(keeper, ending);
        int kept = s.call(s.get(5));
        s.givesFunction("ended with its value", s.call(s.function(keep, 0, 0)));
        s.fails("is over", 6, kept);
        s.fails("is over still", 6, kept);
        s.gives("ended by 22", s.call(s.function(s.then(keep, s.end(s.number(4))), 0, 0)), 4);
        s.fails("is over", 6, kept);
        s.fails("ended with a failure", 4, s.call(s.function(s.then(keep, s.get(7)), 0, 0)));
        s.fails("is over", 6, kept);
        s.gives("not over yet", s.call(s.function(s.then(keep, kept, s.get(7)), 0, 0)), 1);
        s.fails("over by its own end", 6, kept);
        s.gives("ended by the run's end", s.call(s.function(s.then(keep, s.get(3)), 1, 3), s.end(s.number(6))), 6);
        s.fails("is over", 6, kept);
        s.gives("caught", s.attempt(kept, s.get(9)), 6);
        s.hasNothing("assigned where it was said", 2);
    }

    private static void endsTheWholeRun() {
        Script s = new Script(CHECK, "22 if E is the global one, the whole run ends with it");
        int seven = s.number(7);
        int ended = s.end(seven);
        int rest = s.set(1, seven);
        s.gives("alone", ended, 7);
        s.gives("the rest is left out", s.then(ended, rest), 7);
        int deep = s.function(s.then(s.call(s.function(s.then(s.get(0), rest), 0, 0)), rest), 1, 0);
        s.gives("out of two calls", s.then(s.call(deep, ended), rest), 7);
        s.hasNothing("the rest is left out", 1);
        s.gives("with NULL", s.then(s.end(s.nothing()), rest));
        s.givesFunction("with a function", s.then(s.end(deep), rest));
        s.gives("the next run is a whole one", s.then(rest, s.get(1)), 7);
        s.fails("no value, no end", 4, s.end(s.get(8)));
    }

    private static void madeByOneEvaluation() {
        Script s = new Script(CHECK, "25 functions made by one evaluation");
        int function = s.function(s.number(1), 1, 0);
        s.quietly(s.set(0, function));
        s.quietly(s.set(1, s.get(0)));
        s.gives("in another variable", s.same(s.get(0), s.get(1)), 1);
        s.quietly(s.set(1, function));
        s.gives("of another evaluation", s.same(s.get(0), s.get(1)), 0);
        s.gives("as an argument", s.call(s.function(s.same(s.get(5), s.get(0)), 1, 5), s.get(0)), 1);
        s.gives("an argument is evaluated once", s.call(s.function(s.same(s.get(5), s.get(5)), 1, 5), function), 1);
    }
}
