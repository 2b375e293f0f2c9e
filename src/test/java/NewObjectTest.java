import java.util.NoSuchElementException;

/** Promise 1: what a new object is like. */
public final class NewObjectTest {
    private static final Check CHECK = new Check("NewObjectTest");

    public static void main(String[] args) {
        constantIsSmallestInt();
        nothingIsThere();
        objectsAreApart();
        CHECK.end();
    }

    private static void constantIsSmallestInt() {
        CHECK.due("NA", Integer.MIN_VALUE, VectorLanguage.NA);
    }

    private static void nothingIsThere() {
        VectorLanguage x = new VectorLanguage();
        for (int what = 0; what <= 3; what++) {
            int which = what;
            CHECK.answers("count " + what, 0, () -> x.count(which));
        }
        for (int variable = 0; variable <= 9; variable++) {
            int which = variable;
            CHECK.answers("variable " + variable, -2, () -> x.variable(which));
            CHECK.refuses("value " + variable, NoSuchElementException.class, () -> x.value(which, 0));
        }
        CHECK.answers("failure", 0, x::failure);
        CHECK.refuses("element", IllegalStateException.class, () -> x.element(0));
        CHECK.refuses("run", NoSuchElementException.class, () -> x.run(0));
        CHECK.answers("reset", 0, x::reset);
        CHECK.answers("first expression", 0, () -> x.expression(1, 0, 0, 0));
    }

    private static void objectsAreApart() {
        Script one = new Script(CHECK, "one object");
        Script other = new Script(CHECK, "another object");
        one.gives("assignment", one.set(3, one.number(8)), 8);
        other.hasNothing("variable", 3);
        other.counts("expressions", 0, 0);
        other.gives("own number", other.number(5), 5);
        one.has("variable", 3, 8);
        CHECK.answers("last value of the first", 8, () -> one.language.element(0));
    }
}
