/** Promise 6: what the global environment has for a variable. */
public final class VariableTest {
    private static final Check CHECK = new Check("VariableTest");

    public static void main(String[] args) {
        tellsSortAndLength();
        refusesOtherNumbers();
        asksTheGlobalOneAlone();
        CHECK.end();
    }

    private static void tellsSortAndLength() {
        Script s = new Script(CHECK, "sorts");
        int two = s.vector(1, 2);
        s.quietly(s.set(0, two));
        s.quietly(s.set(9, s.nothing()));
        s.quietly(s.set(4, s.function(two, 0, 0)));
        s.has("vector", 0, 1, 2);
        s.has("NULL", 9);
        CHECK.answers("function", -1, () -> s.language.variable(4));
        s.hasNothing("nothing", 1);
        s.hasNothing("nothing", 8);
        s.quietly(s.set(4, s.na()));
        s.has("a vector instead of the function", 4, Script.NA);
    }

    private static void refusesOtherNumbers() {
        VectorLanguage x = new VectorLanguage();
        for (int variable : new int[] {-1, 10, Integer.MIN_VALUE, Integer.MAX_VALUE}) {
            CHECK.refuses("variable " + variable, IllegalArgumentException.class, () -> x.variable(variable));
        }
    }

    private static void asksTheGlobalOneAlone() {
        Script s = new Script(CHECK, "a call's own");
        int own = s.set(2, s.get(1));
        s.gives("call", s.call(s.function(own, 1, 1), s.number(5)), 5);
        s.hasNothing("parameter", 1);
        s.hasNothing("variable of the call", 2);
    }
}
