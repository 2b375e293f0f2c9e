/** Promise 4: the elements of the last value. */
public final class ElementTest {
    private static final Check CHECK = new Check("ElementTest");

    public static void main(String[] args) {
        readsTheLastValue();
        staysAfterFailures();
        isNoFunction();
        isGoneAfterReset();
        doesNotFollowTheVariable();
        CHECK.end();
    }

    private static void readsTheLastValue() {
        Script s = new Script(CHECK, "last value");
        CHECK.refuses("before the first run", IllegalStateException.class, () -> s.language.element(0));
        CHECK.refuses("before the first run, -1", IllegalStateException.class, () -> s.language.element(-1));
        s.quietly(s.vector(7, Script.NA, -9));
        CHECK.answers("element 0", 7, () -> s.language.element(0));
        CHECK.answers("element 1", Script.NA, () -> s.language.element(1));
        CHECK.answers("element 2", -9, () -> s.language.element(2));
        for (int k : new int[] {-1, 3, 16, Integer.MIN_VALUE, Integer.MAX_VALUE}) {
            CHECK.refuses("element " + k, IndexOutOfBoundsException.class, () -> s.language.element(k));
        }
        s.quietly(s.nothing());
        CHECK.refuses("of NULL", IndexOutOfBoundsException.class, () -> s.language.element(0));
    }

    private static void staysAfterFailures() {
        Script s = new Script(CHECK, "after failures");
        int failing = s.get(4);
        s.fails("the first run", 4, failing);
        CHECK.refuses("no run with a value yet", IllegalStateException.class, () -> s.language.element(0));
        s.gives("a value", s.number(12), 12);
        s.fails("a failure", 4, failing);
        CHECK.answers("the value before", 12, () -> s.language.element(0));
        Check.outcome(() -> s.language.run(100));
        CHECK.answers("no run at all", 12, () -> s.language.element(0));
    }

    private static void isNoFunction() {
        Script s = new Script(CHECK, "function");
        int number = s.number(1);
        s.quietly(number);
        s.givesFunction("function", s.function(number, 0, 0));
        CHECK.refuses("element 0", IllegalStateException.class, () -> s.language.element(0));
        CHECK.refuses("element 5", IllegalStateException.class, () -> s.language.element(5));
    }

    private static void isGoneAfterReset() {
        Script s = new Script(CHECK, "reset");
        int number = s.number(1);
        s.quietly(number);
        s.language.reset();
        CHECK.refuses("no last value", IllegalStateException.class, () -> s.language.element(0));
        s.gives("a new one", number, 1);
    }

    private static void doesNotFollowTheVariable() {
        Script s = new Script(CHECK, "variable");
        int replacing = s.replace(0, s.number(1), s.number(50));
        int failing = s.then(replacing, s.get(9));
        s.gives("assigned", s.set(0, s.vector(1, 2)), 1, 2);
        s.quietly(failing);
        CHECK.answers("the value as it was", 1, () -> s.language.element(0));
        s.has("the variable", 0, 50, 2);
    }
}
