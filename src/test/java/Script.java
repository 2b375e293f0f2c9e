import java.util.NoSuchElementException;

/** A new VectorLanguage with a plain name for each kind of expression, and checks of what its runs end with. */
final class Script {
    static final int NA = VectorLanguage.NA;
    static final int NONE = -1;

    final VectorLanguage language = new VectorLanguage();
    private final Check check;
    private final String name;

    Script(Check check, String name) {
        this.check = check;
        this.name = name;
    }

    int number(int number) {
        return language.expression(0, number, 7, 7);
    }

    int na() {
        return language.expression(1, 0, 0, 0);
    }

    int nothing() {
        return language.expression(2, 0, 0, 0);
    }

    /** Numbers and NAs joined; NULL without any. */
    int vector(int... elements) {
        int all = elements.length == 0 ? nothing() : one(elements[0]);
        for (int k = 1; k < elements.length; k++) {
            all = join(all, one(elements[k]));
        }
        return all;
    }

    private int one(int element) {
        return element == NA ? na() : number(element);
    }

    int get(int variable) {
        return language.expression(3, variable, 0, 0);
    }

    int set(int variable, int value) {
        return language.expression(4, variable, value, 0);
    }

    int setAround(int variable, int value) {
        return language.expression(5, variable, value, 0);
    }

    int plus(int a, int b) {
        return arithmetic(0, a, b);
    }

    int arithmetic(int operation, int a, int b) {
        return language.expression(6, a, b, operation);
    }

    int comparison(int operation, int a, int b) {
        return language.expression(7, a, b, operation);
    }

    int logic(int operation, int a, int b) {
        return language.expression(8, a, b, operation);
    }

    int not(int a) {
        return language.expression(9, a, 0, 0);
    }

    int join(int a, int b) {
        return language.expression(10, a, b, 0);
    }

    int range(int from, int to) {
        return language.expression(11, from, to, 0);
    }

    int pick(int vector, int indexes) {
        return language.expression(12, vector, indexes, 0);
    }

    int replace(int variable, int indexes, int elements) {
        return language.expression(13, variable, indexes, elements);
    }

    int length(int a) {
        return language.expression(14, a, 0, 0);
    }

    int sum(int a) {
        return language.expression(15, a, 0, 0);
    }

    int choose(int condition, int then, int otherwise) {
        return language.expression(16, condition, then, otherwise);
    }

    int repeat(int condition, int body) {
        return language.expression(17, condition, body, 0);
    }

    /** All of them in order; the value is that of the last one. */
    int then(int first, int... others) {
        int all = first;
        for (int other : others) {
            all = language.expression(18, all, other, 0);
        }
        return all;
    }

    int function(int body, int parameters, int first) {
        return language.expression(19, body, parameters, first);
    }

    int call(int function) {
        return language.expression(20, function, NONE, NONE);
    }

    int call(int function, int argument) {
        return language.expression(20, function, argument, NONE);
    }

    int call(int function, int first, int second) {
        return language.expression(20, function, first, second);
    }

    int absent(int variable) {
        return language.expression(21, variable, 0, 0);
    }

    int end(int value) {
        return language.expression(22, value, 0, 0);
    }

    int raise(int number) {
        return language.expression(23, number, 0, 0);
    }

    int attempt(int tried, int otherwise) {
        return language.expression(24, tried, otherwise, 0);
    }

    int same(int a, int b) {
        return language.expression(25, a, b, 0);
    }

    /** Runs what stands before a check; how it ends does not matter. */
    void quietly(int expression) {
        Check.outcome(() -> language.run(expression));
    }

    void gives(String what, int expression, int... elements) {
        check.answers(at(what), elements.length, () -> language.run(expression));
        for (int k = 0; k < elements.length; k++) {
            int place = k;
            check.answers(at(what) + " element " + k, elements[k], () -> language.element(place));
        }
        check.refuses(at(what) + " end", IndexOutOfBoundsException.class, () -> language.element(elements.length));
        check.due(at(what) + " failure", 0, language.failure());
    }

    void givesFunction(String what, int expression) {
        check.answers(at(what), -1, () -> language.run(expression));
        check.due(at(what) + " failure", 0, language.failure());
    }

    void fails(String what, int failure, int expression) {
        check.refuses(at(what), thrownFor(failure), () -> language.run(expression));
        check.due(at(what) + " failure", failure, language.failure());
    }

    /** A global variable's elements. */
    void has(String what, int variable, int... elements) {
        check.answers(at(what) + " length", elements.length, () -> language.variable(variable));
        for (int k = 0; k < elements.length; k++) {
            int place = k;
            check.answers(at(what) + " value " + k, elements[k], () -> language.value(variable, place));
        }
    }

    void hasNothing(String what, int variable) {
        check.answers(at(what), -2, () -> language.variable(variable));
    }

    void counts(String what, int which, int want) {
        check.answers(at(what), want, () -> language.count(which));
    }

    private String at(String what) {
        return name + ", " + what;
    }

    private static Class<? extends RuntimeException> thrownFor(int failure) {
        if (failure == 1 || failure == 8) {
            return IndexOutOfBoundsException.class;
        }
        if (failure == 2 || failure == 9) {
            return IllegalStateException.class;
        }
        if (failure == 3 || failure == 6) {
            return UnsupportedOperationException.class;
        }
        return failure == 4 ? NoSuchElementException.class : ArithmeticException.class;
    }
}
