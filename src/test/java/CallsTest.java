/** The terms: kinds 19 to 22, calls and arguments. */
public final class CallsTest {
    private static final Check CHECK = new Check("CallsTest");

    public static void main(String[] args) {
        parameters();
        wrongCalls();
        lazyArguments();
        argumentsInTheirEnvironment();
        argumentsWithin();
        argumentsAsBefore();
        absence();
        absenceElsewhere();
        ending();
        endingFromArguments();
        endingWhatIsOver();
        endingTheRun();
        CHECK.end();
    }

    private static void parameters() {
        Script s = new Script(CHECK, "parameters");
        int four = s.number(4);
        int nine = s.number(9);
        int difference = s.arithmetic(1, s.get(5), s.get(6));
        int two = s.function(difference, 2, 5);
        s.gives("none", s.call(s.function(nine, 0, 0)), 9);
        s.gives("one", s.call(s.function(s.get(9), 1, 9), nine), 9);
        s.gives("two, in order", s.call(two, nine, four), 5);
        s.gives("the other order", s.call(two, four, nine), -5);
        s.fails("one of two", 4, s.call(two, four));
        s.quietly(s.set(6, s.number(1)));
        s.gives("the second from outside", s.call(two, four), 3);
        s.givesFunction("a function as an argument", s.call(s.function(s.get(8), 2, 8), two, nine));
        s.gives("called there", s.call(s.function(s.call(s.get(8), nine, four), 2, 8), two, nine), 5);
    }

    private static void wrongCalls() {
        Script s = new Script(CHECK, "wrong calls");
        int one = s.number(1);
        int none = s.function(one, 0, 0);
        int single = s.function(one, 1, 0);
        s.fails("a number", 3, s.call(one));
        s.fails("NULL", 3, s.call(s.nothing(), one));
        s.fails("one for none", 6, s.call(none, one));
        s.fails("two for one", 6, s.call(single, one, one));
        s.fails("two for none", 6, s.call(none, one, one));
        s.fails("failing function", 4, s.call(s.get(7), one));
        s.fails("arguments are not evaluated", 3, s.call(one, s.set(3, one)));
        s.hasNothing("arguments are not evaluated", 3);
        s.counts("no environment", 1, 0);
        s.gives("fewer", s.call(single), 1);
    }

    private static void lazyArguments() {
        Script s = new Script(CHECK, "lazy");
        int more = s.set(1, s.plus(s.get(1), s.number(1)));
        int read = s.get(0);
        int zero = s.set(1, s.number(0));
        int thrice = s.plus(read, s.plus(read, read));
        s.gives("once", s.then(zero, s.call(s.function(thrice, 1, 0), more)), 3);
        s.has("once", 1, 1);
        s.gives("never", s.then(zero, s.call(s.function(s.number(7), 1, 0), more)), 7);
        s.has("never", 1, 0);
        int swapped = s.function(s.join(s.get(6), s.get(5)), 2, 5);
        s.gives("when wanted", s.then(zero, s.call(swapped, more, more)), 1, 2);
        s.gives("with what holds then", s.then(zero,
                s.call(s.function(s.then(s.setAround(1, s.number(40)), read), 1, 0), more)), 41);
    }

    private static void argumentsInTheirEnvironment() {
        Script s = new Script(CHECK, "environment of arguments");
        int read = s.get(0);
        int doubled = s.function(s.plus(read, read), 1, 0);
        s.quietly(s.set(2, doubled));
        int passing = s.function(s.call(s.get(2), s.plus(read, s.number(1))), 1, 0);
        s.gives("of the caller", s.call(passing, s.number(4)), 10);
        s.counts("both were evaluated", 3, 2);
        s.gives("assigning there", s.call(s.function(s.then(s.get(5), s.get(7)), 1, 5), s.set(7, s.number(3))), 3);
        s.has("in the global one", 7, 3);
        int keeper = s.function(s.function(read, 0, 0), 1, 0);
        s.quietly(s.set(3, s.call(keeper, s.set(8, s.number(6)))));
        s.hasNothing("not yet", 8);
        s.gives("after the call is over", s.call(s.get(3)), 6);
        s.has("then", 8, 6);
    }

    private static void argumentsWithin() {
        Script s = new Script(CHECK, "within itself");
        int read = s.get(0);
        int makeReader = s.setAround(1, s.function(read, 0, 0));
        int reading = s.call(s.get(1));
        int body = s.function(s.then(makeReader, read), 1, 0);
        s.fails("wanted", 2, s.call(body, reading));
        s.gives("caught within", s.call(body, s.attempt(reading, s.get(9))), 2);
        s.counts("to a value", 3, 1);
        int twice = s.then(s.attempt(reading, s.number(1)), s.attempt(reading, s.plus(s.get(9), s.number(20))));
        s.gives("wanted twice within", s.call(body, twice), 22);
        s.fails("caught around, then wanted again", 2,
                s.call(s.function(s.then(makeReader, s.attempt(read, read)), 1, 0), reading));
    }

    private static void argumentsAsBefore() {
        Script s = new Script(CHECK, "as before");
        int read = s.get(0);
        int unset = s.get(1);
        int repair = s.then(s.setAround(1, s.number(5)), read);
        s.gives("evaluated again", s.call(s.function(s.attempt(read, repair), 1, 0), unset), 5);
        s.counts("to a value once", 3, 1);
        int keep = s.setAround(3, s.function(read, 0, 0));
        int keptAndRead = s.function(s.then(keep, read), 1, 0);
        int kept = s.call(s.get(3));
        int endless = s.repeat(s.get(4), s.number(1));
        s.quietly(s.set(4, s.number(1)));
        s.fails("no end", 9, s.call(keptAndRead, s.then(endless, s.number(8))));
        s.fails("still none", 9, kept);
        s.quietly(s.set(4, s.number(0)));
        s.gives("an end in another run", kept, 8);
        s.gives("ended by the argument", s.call(s.function(s.call(keptAndRead, s.end(s.number(7))), 0, 0)), 7);
        s.fails("then wanted again", 6, kept);
        s.fails("and again", 6, kept);
    }

    private static void absence() {
        Script s = new Script(CHECK, "absence");
        int one = s.number(1);
        int both = s.function(s.join(s.absent(8), s.absent(9)), 2, 8);
        s.gives("no argument", s.call(both), 1, 1);
        s.gives("one argument", s.call(both, s.get(0)), 0, 1);
        s.gives("two arguments", s.call(both, s.get(0), one), 0, 0);
        s.counts("none is evaluated", 3, 0);
        int assigned = s.then(s.set(8, one), s.absent(8));
        s.gives("assigned since", s.call(s.function(assigned, 1, 8)), 1);
        s.gives("assigned instead", s.call(s.function(assigned, 1, 8), one), 0);
        s.quietly(s.set(8, one));
        s.gives("found outside", s.call(both), 1, 1);
    }

    private static void absenceElsewhere() {
        Script s = new Script(CHECK, "no parameter");
        int one = s.number(1);
        int asked = s.absent(4);
        s.fails("global", 6, asked);
        s.fails("before the parameters", 6, s.call(s.function(asked, 2, 5), one));
        s.fails("behind the parameters", 6, s.call(s.function(asked, 1, 3), one));
        s.fails("no parameters", 6, s.call(s.function(asked, 0, 4)));
        for (int first : new int[] {Integer.MIN_VALUE, -6, 3, Integer.MAX_VALUE}) {
            s.fails("no parameters, c " + first, 6, s.call(s.function(asked, 0, first)));
        }
        int inner = s.call(s.function(asked, 0, 0));
        s.fails("of the call around", 6, s.call(s.function(inner, 1, 4), one));
        int passing = s.call(s.function(s.get(4), 1, 4), asked);
        s.gives("argument: of the caller", s.call(s.function(passing, 1, 4)), 1);
        s.gives("argument: of the caller", s.call(s.function(passing, 1, 4), one), 0);
    }

    private static void ending() {
        Script s = new Script(CHECK, "ending");
        int three = s.number(3);
        int ended = s.end(three);
        s.gives("the rest is left out", s.call(s.function(s.then(ended, s.set(0, three)), 0, 0)), 3);
        s.hasNothing("the rest is left out", 0);
        s.gives("goes on behind the call", s.plus(s.call(s.function(ended, 0, 0)), three), 6);
        s.gives("out of a repetition", s.call(s.function(s.repeat(three, ended), 0, 0)), 3);
        s.gives("out of a part", s.call(s.function(s.plus(three, s.set(0, ended)), 0, 0)), 3);
        s.hasNothing("not assigned", 0);
        s.givesFunction("with a function", s.call(s.function(s.end(s.function(three, 0, 0)), 0, 0)));
        s.gives("with NULL", s.call(s.function(s.end(s.nothing()), 0, 0)));
        int inner = s.plus(s.call(s.function(ended, 0, 0)), s.number(10));
        s.gives("the inner call alone", s.call(s.function(inner, 0, 0)), 13);
        s.fails("failing value", 4, s.call(s.function(s.end(s.get(9)), 0, 0)));
        s.gives("ended within its value", s.call(s.function(s.end(s.then(ended, s.get(9))), 0, 0)), 3);
    }

    private static void endingFromArguments() {
        Script s = new Script(CHECK, "ending from arguments");
        int read = s.get(0);
        int forcing = s.function(s.then(read, s.set(1, read)), 1, 0);
        int caller = s.then(s.call(forcing, s.end(s.number(5))), s.setAround(2, s.number(1)));
        s.gives("the caller's call", s.call(s.function(caller, 0, 0)), 5);
        s.hasNothing("the rest of it", 2);
        s.gives("goes on behind it", s.join(s.call(s.function(caller, 0, 0)), s.number(6)), 5, 6);
        int passing = s.function(s.then(s.call(forcing, read), s.number(9)), 1, 0);
        s.gives("through two calls", s.call(s.function(s.call(passing, s.end(s.number(4))), 0, 0)), 4);
        s.counts("no argument has a value", 3, 0);
        s.gives("past a handler", s.call(s.function(s.call(s.function(s.attempt(read, s.number(0)), 1, 0),
                s.end(s.number(2))), 0, 0)), 2);
    }

    private static void endingWhatIsOver() {
        Script s = new Script(CHECK, "over already");
        int read = s.get(0);
        int keeper = s.function(s.setAround(3, s.function(read, 0, 0)), 1, 0);
        int assigned = s.end(s.set(4, s.number(1)));
        int keep = s.call(keeper, s.end(s.setAround(4, s.plus(s.get(5), s.number(1)))));
        int kept = s.call(s.get(3));
        s.quietly(s.set(5, s.number(1)));
        s.givesFunction("a call that gave its value", s.call(s.function(keep, 0, 0)));
        s.fails("is over", 6, kept);
        s.has("the value was evaluated before", 4, 2);
        s.gives("caught", s.attempt(kept, s.get(9)), 6);
        s.quietly(s.attempt(s.call(s.function(s.then(keep, s.get(8)), 0, 0)), s.number(1)));
        s.fails("a call that failed is over", 6, kept);
        s.gives("a call that was ended", s.call(s.function(s.then(keep, s.end(s.number(2))), 0, 0)), 2);
        s.fails("is over", 6, kept);
        s.gives("a call while it is not over", s.call(s.function(s.then(keep, kept, s.get(8)), 0, 0)), 2);
        s.gives("the run ended through a call", s.call(s.function(s.then(keep, s.get(7)), 1, 7), assigned), 1);
        s.fails("that one is over", 6, kept);
        s.language.reset();
        s.givesFunction("kept again", s.call(s.function(s.call(keeper, s.end(s.get(8))), 0, 0)));
        s.fails("failing value", 4, kept);
    }

    private static void endingTheRun() {
        Script s = new Script(CHECK, "ending the run");
        int seven = s.number(7);
        int ended = s.end(seven);
        int rest = s.set(0, seven);
        s.gives("at once", s.then(ended, rest), 7);
        s.gives("within its own value", s.end(s.then(ended, rest)), 7);
        int reader = s.function(s.then(s.get(1), rest), 1, 1);
        s.gives("out of a call", s.then(s.call(reader, ended), rest), 7);
        s.hasNothing("the rest is left out", 0);
        s.counts("no argument", 3, 0);
        s.counts("steps", 2, 7);
        s.givesFunction("with a function", s.end(reader));
        CHECK.refuses("it is the last value", IllegalStateException.class, () -> s.language.element(0));
        s.gives("the next run", s.then(rest, s.get(0)), 7);
    }
}
