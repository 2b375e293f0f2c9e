/** The terms: kinds 0 to 5, and environments. */
public final class VariablesTest {
    private static final Check CHECK = new Check("VariablesTest");

    public static void main(String[] args) {
        assignment();
        lookingUp();
        assignmentAround();
        assignmentAroundPastEmptyOnes();
        assignmentOverArguments();
        surroundingsOfMaking();
        failedAssignment();
        CHECK.end();
    }

    private static void assignment() {
        Script s = new Script(CHECK, "assignment");
        int three = s.number(3);
        s.gives("value", s.set(0, three), 3);
        s.gives("read", s.get(0), 3);
        s.gives("of an assignment", s.set(1, s.set(2, s.nothing())));
        s.has("inner", 2);
        s.has("outer", 1);
        s.givesFunction("function", s.set(3, s.function(three, 0, 0)));
        s.givesFunction("read function", s.get(3));
        s.fails("nothing", 4, s.get(9));
        s.gives("copy", s.set(4, s.set(5, s.vector(1, 2))), 1, 2);
        s.quietly(s.replace(4, s.number(1), three));
        s.has("changed one", 4, 3, 2);
        s.has("other one", 5, 1, 2);
    }

    private static void lookingUp() {
        Script s = new Script(CHECK, "looking up");
        int three = s.number(3);
        int read = s.get(1);
        int own = s.function(s.then(s.set(1, s.number(4)), read), 0, 0);
        s.quietly(s.set(1, three));
        s.gives("outer", s.call(s.function(read, 0, 0)), 3);
        s.gives("own", s.call(own), 4);
        s.has("outer stays", 1, 3);
        s.gives("parameter without argument", s.call(s.function(read, 1, 1)), 3);
        s.gives("parameter", s.call(s.function(read, 1, 1), s.number(8)), 8);
        s.gives("two around", s.call(s.call(s.function(s.function(read, 0, 0), 1, 1), s.number(7))), 7);
    }

    private static void assignmentAround() {
        Script s = new Script(CHECK, "around");
        int seven = s.number(7);
        int body = s.then(s.set(1, s.number(2)), s.setAround(1, seven), s.get(1));
        s.gives("own one stays", s.call(s.function(body, 0, 0)), 2);
        s.has("global one", 1, 7);
        s.gives("value", s.call(s.function(s.setAround(2, s.number(8)), 0, 0)), 8);
        s.has("none has it: global", 2, 8);
        s.gives("in the global one", s.setAround(1, s.number(6)), 6);
        s.has("itself", 1, 6);
        int inner = s.call(s.function(s.setAround(3, seven), 0, 0));
        s.gives("nearest that has it", s.call(s.function(s.then(s.set(3, seven), inner), 0, 0)), 7);
        s.hasNothing("not the global one", 3);
    }

    private static void assignmentAroundPastEmptyOnes() {
        Script s = new Script(CHECK, "around past empty ones");
        int inner = s.call(s.function(s.setAround(3, s.number(7)), 0, 0));
        int between = s.call(s.function(inner, 1, 3));
        int outer = s.function(s.then(s.set(3, s.number(1)), between, s.get(3)), 0, 0);
        s.gives("the outer call's", s.call(outer), 7);
        s.hasNothing("not the global one", 3);
        s.gives("no call has it", between, 7);
        s.has("the global one", 3, 7);
    }

    private static void assignmentOverArguments() {
        Script s = new Script(CHECK, "over arguments");
        int read = s.get(0);
        int five = s.number(5);
        int failing = s.get(8);
        int own = s.function(s.then(s.set(0, five), read), 1, 0);
        s.gives("never wanted", s.call(own, failing), 5);
        s.counts("never wanted", 3, 0);
        int inner = s.call(s.function(s.setAround(0, five), 0, 0));
        s.gives("from within", s.call(s.function(s.then(inner, read), 1, 0), failing), 5);
        int around = s.function(s.then(s.set(4, s.function(s.setAround(0, five), 0, 0)), s.plus(read, read)), 1, 0);
        s.quietly(s.set(6, around));
        s.gives("of the same name outside", s.call(s.get(6), s.then(s.set(0, s.number(2)), s.get(0))), 4);
        s.has("outside", 0, 2);
    }

    private static void surroundingsOfMaking() {
        Script s = new Script(CHECK, "surroundings");
        int read = s.get(2);
        int counting = s.function(s.setAround(2, s.plus(read, s.number(1))), 0, 0);
        int maker = s.function(s.then(s.set(2, s.number(10)), counting), 0, 0);
        s.quietly(s.set(0, s.call(maker)));
        s.quietly(s.set(1, s.call(maker)));
        s.gives("first", s.call(s.get(0)), 11);
        s.gives("again", s.call(s.get(0)), 12);
        s.gives("the other one", s.call(s.get(1)), 11);
        s.hasNothing("global", 2);
        int caller = s.function(s.then(s.set(2, s.number(99)), s.call(s.get(0))), 0, 0);
        s.gives("not those of the caller", s.call(caller), 13);
    }

    private static void failedAssignment() {
        Script s = new Script(CHECK, "failed");
        s.quietly(s.set(0, s.number(1)));
        s.fails("assignment", 4, s.set(0, s.get(5)));
        s.fails("assignment around", 4, s.setAround(0, s.get(5)));
        s.has("as before", 0, 1);
        int within = s.setAround(3, s.then(s.setAround(3, s.number(1)), s.number(2)));
        s.gives("looked for after the value", s.call(s.function(within, 0, 0)), 2);
        s.has("global", 3, 2);
    }
}
