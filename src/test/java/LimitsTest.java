/** The terms: limits of steps, of expressions within one another, and of environments. */
public final class LimitsTest {
    private static final Check CHECK = new Check("LimitsTest");

    public static void main(String[] args) {
        steps();
        stepsAreOfOneRun();
        depth();
        depthOfEachKind();
        depthOfCalls();
        depthOfArguments();
        depthOfReplacing();
        depthIsGivenBack();
        environments();
        environmentsInOneRun();
        wrongCallsBeforeTheLimit();
        CHECK.end();
    }

    /** An expression of 400 steps: a full tree of 255, one of 127, one of 15, two sequences and a not. */
    private static int fourHundredSteps(Script s) {
        int[] tree = new int[8];
        tree[0] = s.number(1);
        for (int k = 1; k < tree.length; k++) {
            tree[k] = s.plus(tree[k - 1], tree[k - 1]);
        }
        return s.not(s.then(tree[7], tree[6], tree[3]));
    }

    private static void steps() {
        Script s = new Script(CHECK, "steps");
        int most = fourHundredSteps(s);
        s.gives("400", most, 0);
        s.counts("400", 2, 400);
        s.fails("401", 9, s.not(most));
        s.counts("401", 2, 400);
        s.fails("not caught", 9, s.attempt(most, s.set(9, s.number(1))));
        s.hasNothing("not caught", 9);
        s.fails("no end", 9, s.repeat(s.number(1), s.number(1)));
        s.counts("no end", 2, 400);
        s.fails("after the last step", 9, s.then(most, s.set(0, s.number(1))));
        s.hasNothing("after the last step", 0);
    }

    private static void stepsAreOfOneRun() {
        Script s = new Script(CHECK, "steps of each run");
        int most = fourHundredSteps(s);
        for (int round = 0; round < 3; round++) {
            s.gives("400 again", most, 0);
        }
        s.gives("one", s.number(3), 3);
        s.counts("one", 2, 1);
    }

    /** The expression within so many others. */
    private static int within(Script s, int others, int expression) {
        int all = expression;
        for (int k = 0; k < others; k++) {
            all = s.not(all);
        }
        return all;
    }

    private static void depth() {
        Script s = new Script(CHECK, "depth");
        int number = s.number(1);
        int deep = within(s, 39, number);
        s.gives("within 39", deep, 0);
        s.counts("within 39", 2, 40);
        s.fails("within 40", 9, s.not(deep));
        s.counts("within 40", 2, 40);
        s.fails("not caught", 9, s.attempt(s.not(deep), number));
        s.hasNothing("not caught", 9);
        s.gives("a part that is not evaluated", within(s, 37, s.choose(number, number, deep)), 0);
    }

    /** An expression with the part told right within it. */
    private interface Around {
        int build(Script s, int part);
    }

    private static final Around[] AROUND = {
        (s, part) -> s.set(1, part),
        (s, part) -> s.setAround(1, part),
        (s, part) -> s.plus(part, s.number(1)),
        (s, part) -> s.plus(s.number(1), part),
        (s, part) -> s.comparison(0, part, s.number(1)),
        (s, part) -> s.comparison(0, s.number(1), part),
        (s, part) -> s.logic(0, part, s.number(1)),
        (s, part) -> s.logic(0, s.number(1), part),
        (s, part) -> s.not(part),
        (s, part) -> s.join(part, s.number(1)),
        (s, part) -> s.join(s.number(1), part),
        (s, part) -> s.range(part, s.number(1)),
        (s, part) -> s.range(s.number(1), part),
        (s, part) -> s.pick(part, s.number(1)),
        (s, part) -> s.pick(s.number(1), part),
        (s, part) -> s.replace(1, part, s.number(1)),
        (s, part) -> s.replace(1, s.number(1), part),
        (s, part) -> s.length(part),
        (s, part) -> s.sum(part),
        (s, part) -> s.choose(part, s.number(1), s.number(1)),
        (s, part) -> s.choose(s.number(1), part, s.number(1)),
        (s, part) -> s.choose(s.number(0), s.number(1), part),
        (s, part) -> s.repeat(part, s.end(s.number(1))),
        (s, part) -> s.repeat(s.get(0), part),
        (s, part) -> s.then(part, s.number(1)),
        (s, part) -> s.then(s.number(1), part),
        (s, part) -> s.call(part),
        (s, part) -> s.call(s.function(part, 0, 0)),
        (s, part) -> s.end(part),
        (s, part) -> s.raise(part),
        (s, part) -> s.attempt(part, s.number(1)),
        (s, part) -> s.attempt(s.get(8), part),
        (s, part) -> s.same(part, s.number(1)),
        (s, part) -> s.same(s.number(1), part),
    };

    private static void depthOfEachKind() {
        for (int k = 0; k < AROUND.length; k++) {
            for (int levels = 39; levels <= 40; levels++) {
                Script s = new Script(CHECK, "depth of each kind");
                s.quietly(s.set(0, s.number(1)));
                int part = within(s, levels - 2, s.set(0, s.number(0)));
                s.quietly(AROUND[k].build(s, part));
                CHECK.due("limit reached by " + levels + " levels in part " + k, levels == 40,
                        s.language.failure() == 9);
            }
        }
    }

    private static void depthOfCalls() {
        Script s = new Script(CHECK, "depth of calls");
        int call = s.call(s.get(5));
        s.quietly(s.set(5, s.function(call, 0, 0)));
        s.fails("a call of itself", 9, call);
        s.counts("40 calls, 39 look-ups", 2, 79);
        s.counts("39 calls were made", 1, 39);
        int body = s.function(s.number(4), 0, 0);
        s.gives("body within 39", within(s, 38, s.call(body)), 1);
        s.fails("body within 40", 9, within(s, 39, s.call(body)));
    }

    private static void depthOfArguments() {
        Script s = new Script(CHECK, "depth of arguments");
        int same = s.function(s.get(0), 1, 0);
        int zero = s.number(0);
        s.gives("19 arguments and a not", identities(s, same, 19, s.not(zero)), 1);
        s.counts("19 arguments", 3, 19);
        s.fails("20 arguments", 9, identities(s, same, 20, zero));
        s.counts("none has a value", 3, 0);
    }

    private static void depthOfReplacing() {
        Script s = new Script(CHECK, "depth of replacing");
        int zero = s.number(0);
        int body = s.then(s.replace(0, zero, zero), s.get(0));
        int deep = within(s, 36, s.call(s.function(body, 1, 0), zero));
        s.gives("argument within 39", deep, 0);
        s.fails("argument within 40", 9, s.not(deep));
    }

    private static int identities(Script s, int same, int levels, int innermost) {
        int all = innermost;
        for (int k = 0; k < levels; k++) {
            all = s.call(same, all);
        }
        return all;
    }

    private static void depthIsGivenBack() {
        Script s = new Script(CHECK, "depth given back");
        int failing = within(s, 38, s.get(8));
        int deep = within(s, 38, s.number(1));
        s.gives("after a failure", s.attempt(failing, deep), 1);
        int ended = s.call(s.function(within(s, 5, s.end(s.number(1))), 0, 0));
        s.gives("after an ended call", s.then(ended, deep), 1);
        s.gives("in the second part", s.plus(deep, deep), 2);
        s.gives("in another run", s.not(deep), 0);
    }

    private static void environments() {
        Script s = new Script(CHECK, "environments");
        int call = s.call(s.function(s.number(1), 0, 0));
        for (int made = 1; made <= 90; made++) {
            s.gives("call " + made, call, 1);
            s.counts("call " + made, 1, made);
        }
        s.fails("the 91st", 9, call);
        s.counts("not made", 1, 90);
        s.fails("not caught", 9, s.attempt(call, s.set(9, s.number(1))));
        s.hasNothing("not caught", 9);
        s.gives("without a call", s.number(2), 2);
    }

    private static void environmentsInOneRun() {
        Script s = new Script(CHECK, "environments in one run");
        int one = s.number(1);
        s.quietly(s.set(1, s.function(one, 0, 0)));
        s.fails("no end", 9, s.repeat(s.call(s.get(1)), one));
        s.counts("ninety rounds of four steps, and three", 2, 363);
        s.counts("ninety", 1, 90);
    }

    private static void wrongCallsBeforeTheLimit() {
        Script s = new Script(CHECK, "wrong calls at the limit");
        int one = s.number(1);
        int function = s.function(one, 0, 0);
        int call = s.call(function);
        for (int made = 0; made < 90; made++) {
            s.quietly(call);
        }
        s.fails("no function", 3, s.call(one));
        s.fails("too many arguments", 6, s.call(function, one));
    }
}
