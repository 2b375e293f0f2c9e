/** Promise 9: what is counted. */
public final class CountTest {
    private static final Check CHECK = new Check("CountTest");

    public static void main(String[] args) {
        otherNumbers();
        stepsOfTheLastRun();
        stepsOfWhatIsNotEvaluated();
        argumentsOfTheLastRun();
        argumentsWithoutAValue();
        environmentsSinceReset();
        CHECK.end();
    }

    private static void otherNumbers() {
        VectorLanguage x = new VectorLanguage();
        for (int what : new int[] {-1, 4, Integer.MIN_VALUE, Integer.MAX_VALUE}) {
            CHECK.refuses("count " + what, IllegalArgumentException.class, () -> x.count(what));
        }
    }

    private static void stepsOfTheLastRun() {
        Script s = new Script(CHECK, "steps");
        int one = s.number(1);
        int sum = s.plus(one, one);
        s.gives("one", one, 1);
        s.counts("a number", 2, 1);
        s.gives("sum", sum, 2);
        s.counts("a sum", 2, 3);
        s.gives("the same part twice", s.plus(sum, sum), 4);
        s.counts("a sum of sums", 2, 7);
        s.fails("failure in the first part", 4, s.plus(s.get(9), sum));
        s.counts("until the failure", 2, 2);
    }

    private static void stepsOfWhatIsNotEvaluated() {
        Script s = new Script(CHECK, "left out");
        int yes = s.number(1);
        int no = s.number(0);
        int long_ = s.plus(yes, yes);
        s.gives("if true", s.choose(yes, yes, long_), 1);
        s.counts("if true", 2, 3);
        s.gives("if false", s.choose(no, long_, yes), 1);
        s.counts("if false", 2, 3);
        s.gives("if false, none", s.choose(no, long_, Script.NONE));
        s.counts("if false, none", 2, 2);
        s.gives("while false", s.repeat(no, long_));
        s.counts("while false", 2, 2);
        s.givesFunction("function", s.function(long_, 0, 0));
        s.counts("function", 2, 1);
        s.gives("no failure", s.attempt(yes, long_), 1);
        s.counts("no failure", 2, 2);
    }

    private static void argumentsOfTheLastRun() {
        Script s = new Script(CHECK, "arguments");
        int both = s.function(s.plus(s.get(0), s.get(0)), 2, 0);
        int five = s.number(5);
        s.gives("one of two", s.call(both, five, s.get(8)), 10);
        s.counts("one of two", 3, 1);
        s.counts("its steps", 2, 6);
        s.gives("none", s.call(s.function(five, 1, 0), five), 5);
        s.counts("none", 3, 0);
        int keeper = s.function(s.function(s.get(0), 0, 0), 1, 0);
        s.givesFunction("kept for later", s.set(4, s.call(keeper, five)));
        s.counts("kept for later", 3, 0);
        int later = s.call(s.get(4));
        s.gives("in a later run", later, 5);
        s.counts("in a later run", 3, 1);
        s.counts("its steps", 2, 4);
        s.gives("known already", later, 5);
        s.counts("known already", 3, 0);
        s.counts("steps without it", 2, 3);
    }

    private static void argumentsWithoutAValue() {
        Script s = new Script(CHECK, "no value");
        int one = s.number(1);
        int asked = s.function(s.attempt(s.get(0), one), 1, 0);
        s.gives("failed argument", s.call(asked, s.get(7)), 1);
        s.counts("failed argument", 3, 0);
        s.gives("argument that ends the run", s.call(asked, s.end(one)), 1);
        s.counts("argument that ends the run", 3, 0);
    }

    private static void environmentsSinceReset() {
        Script s = new Script(CHECK, "environments");
        int one = s.number(1);
        int call = s.call(s.function(one, 0, 0));
        s.gives("two calls", s.plus(call, call), 2);
        s.counts("two calls", 1, 2);
        s.gives("another run", call, 1);
        s.counts("another run", 1, 3);
        s.fails("too many arguments", 6, s.call(s.function(one, 0, 0), one));
        s.fails("no function", 3, s.call(one));
        s.counts("none for calls that fail", 1, 3);
        s.quietly(one);
        s.counts("a run without calls", 1, 3);
        s.language.reset();
        s.counts("after a reset", 1, 0);
    }
}
