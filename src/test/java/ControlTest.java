/** The terms: kinds 16 to 18, 23 and 24, and conditions. */
public final class ControlTest {
    private static final Check CHECK = new Check("ControlTest");
    private static final int NA = Script.NA;

    public static void main(String[] args) {
        conditions();
        choice();
        repetition();
        sequence();
        raising();
        catching();
        catchingInCalls();
        catchingNotAll();
        CHECK.end();
    }

    private static void conditions() {
        Script s = new Script(CHECK, "conditions");
        int yes = s.number(1);
        int no = s.number(0);
        int function = s.function(yes, 0, 0);
        s.gives("1", s.choose(yes, yes, no), 1);
        s.gives("0", s.choose(no, yes, no), 0);
        s.gives("-5", s.choose(s.number(-5), yes, no), 1);
        s.gives("first element true", s.choose(s.vector(2, 0, NA), yes, no), 1);
        s.gives("first element false", s.choose(s.vector(0, 1), yes, no), 0);
        for (int kind = 16; kind <= 17; kind++) {
            s.fails("NULL", 7, s.language.expression(kind, s.nothing(), yes, no));
            s.fails("NA", 7, s.language.expression(kind, s.na(), yes, no));
            s.fails("NA first", 7, s.language.expression(kind, s.vector(NA, 1), yes, no));
            s.fails("function", 3, s.language.expression(kind, function, yes, no));
            s.fails("failure", 4, s.language.expression(kind, s.get(9), yes, no));
        }
    }

    private static void choice() {
        Script s = new Script(CHECK, "choice");
        int yes = s.number(1);
        int no = s.number(0);
        int failing = s.get(9);
        s.gives("no other", s.choose(no, failing, Script.NONE));
        s.gives("the other left out", s.choose(yes, s.vector(4, 5), failing), 4, 5);
        s.fails("failing one", 4, s.choose(yes, failing, no));
        s.fails("failing other", 4, s.choose(no, yes, failing));
        s.givesFunction("function", s.choose(no, yes, s.function(no, 0, 0)));
    }

    private static void repetition() {
        Script s = new Script(CHECK, "repetition");
        int left = s.get(0);
        int less = s.set(0, s.arithmetic(1, left, s.number(1)));
        int more = s.set(1, s.plus(s.get(1), left));
        int start = s.then(s.set(0, s.number(4)), s.set(1, s.number(0)));
        s.gives("value", s.then(start, s.repeat(left, s.then(more, less))));
        s.has("counter", 0, 0);
        s.has("sum", 1, 10);
        s.gives("never", s.repeat(s.number(0), s.get(9)));
        s.fails("failing body", 4, s.repeat(s.number(1), s.get(9)));
        s.gives("body that is a function", s.then(s.set(0, s.number(1)), s.repeat(left,
                s.then(less, s.function(left, 0, 0)))));
        s.fails("failure in a later round", 7, s.then(start, s.repeat(left,
                s.set(0, s.choose(s.comparison(0, left, s.number(2)), s.na(), s.arithmetic(1, left, s.number(1)))))));
        s.has("until then", 0, NA);
    }

    private static void sequence() {
        Script s = new Script(CHECK, "sequence");
        int one = s.number(1);
        s.gives("second", s.then(one, s.vector(2, 3)), 2, 3);
        s.gives("function before", s.then(s.function(one, 0, 0), one), 1);
        s.fails("failure before", 4, s.then(s.get(9), s.set(0, one)));
        s.hasNothing("the rest is left out", 0);
        s.fails("failure behind", 4, s.then(s.set(0, one), s.get(9)));
        s.has("first was evaluated", 0, 1);
    }

    private static void raising() {
        Script s = new Script(CHECK, "raising");
        s.fails("0", 100, s.raise(s.number(0)));
        s.fails("1", 101, s.raise(s.number(1)));
        s.fails("99", 199, s.raise(s.number(99)));
        s.fails("100", 100, s.raise(s.number(100)));
        s.fails("-1", 100, s.raise(s.number(-1)));
        s.fails("NA", 100, s.raise(s.na()));
        s.fails("NULL", 100, s.raise(s.nothing()));
        s.fails("first element", 107, s.raise(s.vector(7, 8)));
        s.fails("function", 3, s.raise(s.function(0, 0, 0)));
        s.fails("failure", 4, s.raise(s.get(9)));
    }

    private static void catching() {
        Script s = new Script(CHECK, "catching");
        int one = s.number(1);
        int number = s.get(9);
        int function = s.function(one, 0, 0);
        s.gives("no failure", s.attempt(one, number), 1);
        s.hasNothing("no number", 9);
        s.givesFunction("function", s.attempt(function, number));
        s.gives("1", s.attempt(s.range(one, s.number(40)), number), 1);
        s.gives("3", s.attempt(s.call(one), number), 3);
        s.gives("4", s.attempt(s.get(8), number), 4);
        s.gives("5", s.attempt(s.range(s.na(), one), number), 5);
        s.gives("6", s.attempt(s.absent(0), number), 6);
        s.gives("7", s.attempt(s.choose(s.na(), one, one), number), 7);
        s.gives("8", s.attempt(s.pick(one, s.vector(1, -1)), number), 8);
        s.gives("150", s.attempt(s.raise(s.number(50)), number), 150);
        s.has("the number stays", 9, 150);
        s.gives("nested", s.attempt(s.attempt(s.raise(one), s.raise(s.number(2))), number), 102);
        s.gives("no failure then", s.attempt(one, number), 1);
        s.has("nor a number", 9, 102);
        s.gives("goes on", s.plus(s.attempt(s.get(8), one), one), 2);
        s.gives("assigned before", s.attempt(s.then(s.set(0, one), s.get(8)), s.get(0)), 1);
    }

    private static void catchingInCalls() {
        Script s = new Script(CHECK, "catching in calls");
        int raised = s.raise(s.number(5));
        int number = s.get(9);
        int own = s.function(s.attempt(raised, number), 0, 0);
        s.gives("variable 9 of the call", s.call(own), 105);
        s.hasNothing("not the global one", 9);
        s.gives("out of calls", s.attempt(s.call(s.function(s.call(s.function(raised, 0, 0)), 0, 0)), number), 105);
        s.has("global one", 9, 105);
        int two = s.function(s.attempt(s.get(8), s.plus(number, s.get(0))), 1, 0);
        s.gives("argument within the handler", s.call(two, s.attempt(raised, number)), 109);
        s.has("each its own", 9, 105);
    }

    private static void catchingNotAll() {
        Script s = new Script(CHECK, "not caught");
        int one = s.number(1);
        int endless = s.repeat(one, one);
        s.fails("failure 9", 9, s.attempt(endless, s.set(0, one)));
        s.hasNothing("no handler", 0);
        s.hasNothing("no number", 9);
        s.fails("nested", 9, s.attempt(s.attempt(endless, one), one));
        s.gives("ended call", s.call(s.function(s.attempt(s.end(s.number(3)), one), 0, 0)), 3);
        s.gives("ended run", s.attempt(s.end(s.number(4)), one), 4);
        s.hasNothing("still no number", 9);
    }
}
