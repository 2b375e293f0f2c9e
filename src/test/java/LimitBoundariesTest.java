/** The boundary cases of the limits: the last that is allowed and the first that is not, in each place. */
public final class LimitBoundariesTest {
    private static final Check CHECK = new Check("LimitBoundariesTest");
    private static final int STEPS = 400;
    private static final int OPEN = 40;
    private static final int ENVIRONMENTS = 90;

    public static void main(String[] args) {
        anyNumberOfSteps();
        lastStepInABody();
        lastStepInAnArgument();
        lastStepInAHandler();
        lastStepOfAReplacement();
        stepsBeginAnew();
        anyNumberOfOthers();
        othersAroundAnArgument();
        othersAreNotThoseBefore();
        anyNumberOfEnvironments();
        environmentsOverManyRuns();
        environmentsAfterTheLast();
        CHECK.end();
    }

    /** An expression of so many steps, with a value that is true. */
    private static int ofSteps(Script s, int steps) {
        int[] trees = new int[9];
        trees[0] = s.number(1);
        for (int k = 1; k < trees.length; k++) {
            trees[k] = s.plus(trees[k - 1], trees[k - 1]);
        }
        return ofSteps(s, trees, steps);
    }

    /** The tree k has 2^(k + 1) - 1 steps. */
    private static int ofSteps(Script s, int[] trees, int steps) {
        for (int k = trees.length - 1; k >= 0; k--) {
            int size = (2 << k) - 1;
            if (size == steps) {
                return trees[k];
            }
            if (size <= steps - 2) {
                return s.then(trees[k], ofSteps(s, trees, steps - size - 1));
            }
        }
        return s.sum(trees[0]);
    }

    private static void anyNumberOfSteps() {
        for (int steps = 1; steps <= STEPS + 10; steps++) {
            Script s = new Script(CHECK, "the 401st step of a run");
            int expression = ofSteps(s, steps);
            if (steps <= STEPS) {
                CHECK.answers(steps + " steps", 1, () -> s.language.run(expression));
            } else {
                s.fails(steps + " steps", 9, expression);
            }
            s.counts(steps + " steps", 2, Math.min(steps, STEPS));
        }
    }

    /** How a run ends in which these steps, then the last expression, are evaluated: that one begins behind steps + 1. */
    private static void endsBehind(Script s, String what, int steps, boolean fails, int last) {
        int all = s.then(ofSteps(s, steps), last);
        if (fails) {
            s.fails(what, 9, all);
            s.counts(what, 2, STEPS);
        } else {
            CHECK.due(what, "1", Check.outcome(() -> s.language.run(all)));
        }
    }

    private static void lastStepInABody() {
        for (int late = 0; late <= 1; late++) {
            Script s = new Script(CHECK, "the 401st step is the body of a call");
            int call = s.call(s.function(s.set(0, s.number(1)), 0, 0));
            endsBehind(s, "late by " + late, STEPS - 5 + late, late == 1, call);
            s.counts("the environment was made", 1, 1);
        }
        Script s = new Script(CHECK, "the 401st step is the function");
        endsBehind(s, "no function", STEPS - 2, true, s.call(s.function(s.number(1), 0, 0)));
        s.counts("no environment", 1, 0);
    }

    private static void lastStepInAnArgument() {
        for (int late = 0; late <= 1; late++) {
            Script s = new Script(CHECK, "the 401st step is an argument");
            int call = s.call(s.function(s.get(0), 1, 0), s.number(1));
            endsBehind(s, "late by " + late, STEPS - 5 + late, late == 1, call);
            s.counts("evaluated to a value", 3, 1 - late);
        }
    }

    private static void lastStepInAHandler() {
        for (int late = 0; late <= 1; late++) {
            Script s = new Script(CHECK, "the 401st step is what a failure leads to");
            endsBehind(s, "late by " + late, STEPS - 4 + late, late == 1, s.attempt(s.get(8), s.number(1)));
            s.has("the number before", 9, 4);
        }
    }

    private static void lastStepOfAReplacement() {
        for (int late = 0; late <= 1; late++) {
            Script s = new Script(CHECK, "the 401st step is what replaces");
            endsBehind(s, "late by " + late, STEPS - 4 + late, late == 1, s.replace(0, s.number(1), s.number(7)));
            CHECK.answers("late by " + late, late == 1 ? -2 : 1, () -> s.language.variable(0));
        }
    }

    private static void stepsBeginAnew() {
        Script s = new Script(CHECK, "of a run");
        int most = ofSteps(s, STEPS);
        int one = s.number(6);
        CHECK.answers("all steps", 1, () -> s.language.run(most));
        CHECK.answers("all steps again", 1, () -> s.language.run(most));
        s.fails("one more", 9, s.not(most));
        s.gives("another run", one, 6);
        s.counts("another run", 2, 1);
    }

    /** The expression within so many others. */
    private static int within(Script s, int others, int expression) {
        int all = expression;
        for (int k = 0; k < others; k++) {
            all = s.sum(all);
        }
        return all;
    }

    private static void anyNumberOfOthers() {
        for (int others = 0; others <= OPEN + 2; others++) {
            Script s = new Script(CHECK, "an expression to be evaluated while 40 others are, one within another");
            int all = within(s, others, s.number(5));
            if (others < OPEN) {
                s.gives("within " + others, all, 5);
                s.counts("within " + others, 2, others + 1);
            } else {
                s.fails("within " + others, 9, all);
                s.counts("within " + others, 2, OPEN);
            }
        }
    }

    private static void othersAroundAnArgument() {
        for (int late = 0; late <= 1; late++) {
            Script s = new Script(CHECK, "an argument is within what wanted it, and a body within its call");
            int reading = s.call(s.function(s.get(0), 1, 0), s.number(5));
            int deepReading = within(s, OPEN - 3 + late, reading);
            int deepBody = within(s, OPEN - 2 + late, s.call(s.function(s.number(5), 0, 0)));
            if (late == 0) {
                s.gives("argument", deepReading, 5);
                s.gives("body", deepBody, 5);
            } else {
                s.fails("argument", 9, deepReading);
                s.counts("argument", 3, 0);
                s.fails("body", 9, deepBody);
            }
        }
        Script s = new Script(CHECK, "an argument that is known is evaluated no more");
        int read = s.get(0);
        int known = s.function(s.then(read, within(s, OPEN - 4, s.sum(read))), 1, 0);
        s.gives("within all that can be", s.call(known, s.number(5)), 5);
    }

    private static void othersAreNotThoseBefore() {
        Script s = new Script(CHECK, "one within another, not one after another");
        int deep = within(s, OPEN - 2, s.number(5));
        s.gives("both parts as deep as can be", s.join(deep, deep), 5, 5);
        s.gives("behind a failure as deep", s.attempt(within(s, OPEN - 2, s.get(8)), deep), 5);
        int ended = s.call(s.function(within(s, OPEN / 2, s.end(s.number(5))), 0, 0));
        s.gives("behind an ended call", s.then(ended, deep), 5);
        s.fails("one deeper", 9, s.then(ended, s.sum(deep)));
        s.gives("in the next run", s.sum(deep), 5);
    }

    /** So many evaluations of one call: with a body of one step, four steps for each. */
    private static int calls(Script s, int call, int many) {
        if (many == 1) {
            return call;
        }
        int half = calls(s, call, many / 2);
        int both = s.then(half, half);
        return many % 2 == 0 ? both : s.then(both, call);
    }

    private static void anyNumberOfEnvironments() {
        for (int many = 1; many <= ENVIRONMENTS + 2; many++) {
            Script s = new Script(CHECK, "an environment when 90 have been made since the last reset");
            int all = calls(s, s.call(s.function(s.number(5), 0, 0)), many);
            if (many <= ENVIRONMENTS) {
                s.gives(many + " calls", all, 5);
            } else {
                s.fails(many + " calls", 9, all);
            }
            s.counts(many + " calls", 1, Math.min(many, ENVIRONMENTS));
            CHECK.answers(many + " calls, reset", Math.min(many, ENVIRONMENTS), s.language::reset);
        }
    }

    private static void environmentsOverManyRuns() {
        Script s = new Script(CHECK, "since the last reset, over many runs");
        int call = s.call(s.function(s.number(5), 0, 0));
        for (int made = 1; made <= ENVIRONMENTS; made++) {
            s.quietly(call);
            s.counts("made", 1, made);
        }
        s.fails("one more", 9, call);
        CHECK.answers("all", ENVIRONMENTS, s.language::reset);
        s.gives("after the reset", call, 5);
        s.counts("after the reset", 1, 1);
    }

    private static void environmentsAfterTheLast() {
        Script s = new Script(CHECK, "what is still done when no environment can be made");
        int one = s.number(1);
        int function = s.function(s.set(3, one), 1, 0);
        int call = s.call(function);
        for (int made = 0; made < ENVIRONMENTS; made++) {
            s.quietly(call);
        }
        s.fails("the function is evaluated first", 9, s.call(s.then(s.set(2, one), function), s.set(4, one)));
        s.has("the function is evaluated first", 2, 1);
        s.hasNothing("not the argument", 4);
        s.counts("not made", 1, ENVIRONMENTS);
        s.fails("no function", 3, s.call(one));
        s.fails("too many arguments", 6, s.call(s.function(one, 0, 0), one));
        s.fails("not caught", 9, s.attempt(call, one));
        s.givesFunction("functions can be made", function);
        s.gives("what needs none", s.plus(one, one), 2);
    }
}
