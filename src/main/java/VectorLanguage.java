import java.util.Arrays;
import java.util.NoSuchElementException;

/**
 * The core of an interpreter for a language of vectors: arithmetic with recycling and NA, indexing and
 * replacement, functions with lazily evaluated arguments, and errors that can be caught.
 */
public final class VectorLanguage {
    public static final int NA = -2147483648;

    private static final int LARGEST = 1000000000;
    private static final int LONGEST = 16;
    private static final int VARIABLES = 10;
    private static final int EXPRESSIONS = 120;
    private static final int STEPS = 400;
    private static final int OPEN = 40;
    private static final int ENVIRONMENTS = 90;
    private static final int PARAMETERS = 2;
    private static final int CAUGHT = 9;
    private static final int NONE = -1;

    private static final int NUMBER = 0;
    private static final int NOT_AVAILABLE = 1;
    private static final int NULL = 2;
    private static final int VARIABLE = 3;
    private static final int ASSIGN = 4;
    private static final int ASSIGN_AROUND = 5;
    private static final int ARITHMETIC = 6;
    private static final int COMPARISON = 7;
    private static final int LOGIC = 8;
    private static final int NOT = 9;
    private static final int JOIN = 10;
    private static final int RANGE = 11;
    private static final int PICK = 12;
    private static final int REPLACE = 13;
    private static final int LENGTH = 14;
    private static final int SUM = 15;
    private static final int IF = 16;
    private static final int WHILE = 17;
    private static final int THEN = 18;
    private static final int FUNCTION = 19;
    private static final int CALL = 20;
    private static final int ABSENT = 21;
    private static final int RETURN = 22;
    private static final int RAISE = 23;
    private static final int CATCH = 24;
    private static final int SAME = 25;

    private static final int PLUS = 0;
    private static final int MINUS = 1;
    private static final int TIMES = 2;
    private static final int QUOTIENT = 3;
    private static final int REMAINDER = 4;
    private static final int EQUAL = 0;
    private static final int LESS = 1;
    private static final int AT_MOST = 2;
    private static final int AND = 0;
    private static final int OR = 1;

    private static final int TOO_LONG = 1;
    private static final int WANTED_WITHIN = 2;
    private static final int WRONG_SORT = 3;
    private static final int NOT_FOUND = 4;
    private static final int NO_ELEMENT = 5;
    private static final int WRONG_CALL = 6;
    private static final int NO_CONDITION = 7;
    private static final int WRONG_INDEX = 8;
    private static final int LIMIT = 9;
    private static final int RAISED = 100;
    private static final int RAISED_RANGE = 100;

    private final Program program;
    private final Evaluator evaluator;
    private Value last;

    public VectorLanguage() {
        program = new Program();
        evaluator = new Evaluator(program);
        last = null;
    }

    public int expression(int kind, int a, int b, int c) throws IllegalArgumentException, IllegalStateException {
        if (!program.accepts(kind, a, b, c)) {
            throw new IllegalArgumentException("no expression can be made of this");
        }
        if (program.made >= EXPRESSIONS) {
            throw new IllegalStateException("all expressions were made");
        }
        return program.add(new Expression(kind, a, b, c));
    }

    public int run(int expression) throws NoSuchElementException, IndexOutOfBoundsException, IllegalStateException,
            UnsupportedOperationException, ArithmeticException {
        if (!program.has(expression)) {
            throw new NoSuchElementException("no such expression");
        }
        Value value = evaluator.perform(expression);
        if (value == null) {
            return refuse(evaluator.failed);
        }
        last = value;
        return value.size();
    }

    public int element(int k) throws IllegalStateException, IndexOutOfBoundsException {
        if (last instanceof Vector vector) {
            if (!vector.hasPlace(k)) {
                throw new IndexOutOfBoundsException("no such element");
            }
            return vector.elements[k];
        }
        throw new IllegalStateException("no vector was answered");
    }

    public int failure() {
        return evaluator.failed;
    }

    public int variable(int variable) throws IllegalArgumentException {
        if (!isVariable(variable)) {
            throw new IllegalArgumentException("no such variable");
        }
        return evaluator.global.held[variable] instanceof Value value ? value.size() : -2;
    }

    public int value(int variable, int k) throws IllegalArgumentException, NoSuchElementException {
        if (!isVariable(variable)) {
            throw new IllegalArgumentException("no such variable");
        }
        if (evaluator.global.held[variable] instanceof Vector vector && vector.hasPlace(k)) {
            return vector.elements[k];
        }
        throw new NoSuchElementException("no such element");
    }

    public int reset() {
        last = null;
        return evaluator.forget();
    }

    public int count(int what) throws IllegalArgumentException {
        switch (what) {
            case 0:
                return program.made;
            case 1:
                return evaluator.environments;
            case 2:
                return evaluator.steps;
            case 3:
                return evaluator.argumentsEvaluated;
            default:
                throw new IllegalArgumentException("nothing is counted by this number");
        }
    }

    /** Throws what stands for the failure of a run; there is no answer. */
    private static int refuse(int failure) {
        switch (failure) {
            case TOO_LONG:
            case WRONG_INDEX:
                throw new IndexOutOfBoundsException("too many elements, or a wrong index");
            case WANTED_WITHIN:
            case LIMIT:
                throw new IllegalStateException("an argument wanted within itself, or a limit reached");
            case WRONG_SORT:
            case WRONG_CALL:
                throw new UnsupportedOperationException("a wrong sort of value, or a wrong call");
            case NOT_FOUND:
                throw new NoSuchElementException("a variable without a value");
            default:
                throw new ArithmeticException("no element, no condition, or a failure raised");
        }
    }

    private static boolean isVariable(int number) {
        return number >= 0 && number < VARIABLES;
    }

    /** An expression as it was made; what a, b and c mean depends on its kind. */
    private static final class Expression {
        final int kind;
        final int a;
        final int b;
        final int c;
        /** The value of a NUMBER: made once, so that evaluating it takes no room. */
        final Vector number;

        Expression(int kind, int a, int b, int c) {
            this.kind = kind;
            this.a = a;
            this.b = b;
            this.c = c;
            number = kind == NUMBER ? new Vector(a) : null;
        }
    }

    /** The expressions made so far, by number. */
    private static final class Program {
        final Expression[] expressions = new Expression[EXPRESSIONS];
        int made;

        boolean has(int number) {
            return number >= 0 && number < made;
        }

        int add(Expression expression) {
            expressions[made] = expression;
            made++;
            return made - 1;
        }

        boolean accepts(int kind, int a, int b, int c) {
            switch (kind) {
                case NUMBER:
                    return a >= -LARGEST && a <= LARGEST;
                case NOT_AVAILABLE:
                case NULL:
                    return true;
                case VARIABLE:
                case ABSENT:
                    return isVariable(a);
                case ASSIGN:
                case ASSIGN_AROUND:
                    return isVariable(a) && has(b);
                case ARITHMETIC:
                    return has(a) && has(b) && c >= PLUS && c <= REMAINDER;
                case COMPARISON:
                    return has(a) && has(b) && c >= EQUAL && c <= AT_MOST;
                case LOGIC:
                    return has(a) && has(b) && c >= AND && c <= OR;
                case NOT:
                case LENGTH:
                case SUM:
                case RETURN:
                case RAISE:
                    return has(a);
                case JOIN:
                case RANGE:
                case PICK:
                case WHILE:
                case THEN:
                case CATCH:
                case SAME:
                    return has(a) && has(b);
                case REPLACE:
                    return isVariable(a) && has(b) && has(c);
                case IF:
                    return has(a) && has(b) && hasOrNone(c);
                case FUNCTION:
                    return has(a) && acceptsParameters(b, c);
                case CALL:
                    return has(a) && acceptsArguments(b, c);
                default:
                    return false;
            }
        }

        private boolean hasOrNone(int number) {
            return number == NONE || has(number);
        }

        private boolean acceptsArguments(int b, int c) {
            return b == NONE ? c == NONE : has(b) && hasOrNone(c);
        }

        private static boolean acceptsParameters(int parameters, int first) {
            if (parameters < 0 || parameters > PARAMETERS) {
                return false;
            }
            return parameters == 0 || first >= 0 && first <= VARIABLES - parameters;
        }
    }

    /** What an environment can have for a variable: a value or an argument. */
    private abstract static class Held {
    }

    private abstract static class Value extends Held {
        /** How many elements; -1 for a function. */
        abstract int size();
    }

    /** A vector, or NULL if it has no elements. Its elements never change, so that vectors can be shared. */
    private static final class Vector extends Value {
        final int[] elements;

        Vector(int[] elements) {
            this.elements = elements;
        }

        Vector(int element) {
            elements = new int[1];
            elements[0] = element;
        }

        int size() {
            return elements.length;
        }

        boolean hasPlace(int k) {
            return k >= 0 && k < elements.length;
        }
    }

    private static final class Function extends Value {
        final int body;
        final int parameters;
        final int first;
        final Environment surroundings;

        Function(int body, int parameters, int first, Environment surroundings) {
            this.body = body;
            this.parameters = parameters;
            this.first = first;
            this.surroundings = surroundings;
        }

        int size() {
            return -1;
        }

        boolean hasParameter(int variable) {
            return variable >= first && variable < first + parameters;
        }
    }

    private static final class Argument extends Held {
        final int expression;
        final Environment home;
        Value known;
        boolean beingEvaluated;

        Argument(int expression, Environment home) {
            this.expression = expression;
            this.home = home;
        }
    }

    private static final class Environment {
        final Held[] held = new Held[VARIABLES];
        final Environment outer;
        /** The function of the call that this was made for; null for the global one. */
        final Function called;
        /** How many arguments that call had. */
        final int given;
        boolean over;

        Environment(Function called, int given) {
            this.called = called;
            this.given = given;
            outer = called == null ? null : called.surroundings;
        }

        Held lookUp(int variable) {
            for (Environment here = this; here != null; here = here.outer) {
                if (here.held[variable] != null) {
                    return here.held[variable];
                }
            }
            return null;
        }

        /** The environment that an assignment around this one goes to. */
        Environment nearestAround(int variable) {
            Environment here = outer == null ? this : outer;
            while (here.outer != null && here.held[variable] == null) {
                here = here.outer;
            }
            return here;
        }

        void clear() {
            for (int variable = 0; variable < VARIABLES; variable++) {
                held[variable] = null;
            }
        }
    }

    /** Calculation with elements. */
    private static final class Elements {
        /** The first element; NA where there is none, as all who ask take both alike. */
        static int first(int[] elements) {
            return elements.length == 0 ? NA : elements[0];
        }

        static int inRange(long number) {
            return number < -LARGEST || number > LARGEST ? NA : (int) number;
        }

        static int pair(int kind, int operation, int x, int y) {
            if (kind == LOGIC) {
                return operation == AND ? and(x, y) : or(x, y);
            }
            if (x == NA || y == NA) {
                return NA;
            }
            return kind == COMPARISON ? compare(operation, x, y) : inRange(calculate(operation, x, y));
        }

        static int not(int x) {
            if (x == NA) {
                return NA;
            }
            return x == 0 ? 1 : 0;
        }

        static int sum(int[] elements) {
            long sum = 0;
            for (int element : elements) {
                if (element == NA) {
                    return NA;
                }
                sum += element;
            }
            return inRange(sum);
        }

        static boolean same(int[] x, int[] y) {
            if (x.length != y.length) {
                return false;
            }
            for (int k = 0; k < x.length; k++) {
                if (x[k] != y[k]) {
                    return false;
                }
            }
            return true;
        }

        private static int and(int x, int y) {
            if (x == 0 || y == 0) {
                return 0;
            }
            return x == NA || y == NA ? NA : 1;
        }

        private static int or(int x, int y) {
            boolean anyTrue = x != 0 && x != NA || y != 0 && y != NA;
            if (anyTrue) {
                return 1;
            }
            return x == NA || y == NA ? NA : 0;
        }

        private static int compare(int operation, int x, int y) {
            switch (operation) {
                case EQUAL:
                    return x == y ? 1 : 0;
                case LESS:
                    return x < y ? 1 : 0;
                default:
                    return x <= y ? 1 : 0;
            }
        }

        /** The result before it is looked at for its range; NA is out of range and so stays NA. */
        private static long calculate(int operation, int x, int y) {
            switch (operation) {
                case PLUS:
                    return (long) x + y;
                case MINUS:
                    return (long) x - y;
                case TIMES:
                    return (long) x * y;
                case QUOTIENT:
                    return y == 0 ? NA : Math.floorDiv(x, y);
                default:
                    return y == 0 ? NA : Math.floorMod(x, y);
            }
        }
    }

    /** The places, from 0, that indexes mean in a vector; one row of them is used again and again. */
    private static final class Places {
        final int[] row = new int[LONGEST];
        int count;
        private boolean anyBelow;
        private boolean anyAbove;
        private boolean anyNa;

        /** Answers whether the indexes mean places; an NA among them means the place NA, where that is allowed. */
        boolean find(int[] indexes, int length, boolean naAllowed) {
            count = 0;
            survey(indexes);
            if (anyNa && !naAllowed) {
                return false;
            }
            if (!anyBelow) {
                addThose(indexes);
                return true;
            }
            if (anyAbove || anyNa) {
                return false;
            }
            addOthers(indexes, length);
            return true;
        }

        /** The length that a vector must have to have all these places. */
        int reach() {
            int reach = 0;
            for (int k = 0; k < count; k++) {
                reach = Math.max(reach, row[k] + 1);
            }
            return reach;
        }

        private void survey(int[] indexes) {
            anyBelow = false;
            anyAbove = false;
            anyNa = false;
            for (int index : indexes) {
                if (index == NA) {
                    anyNa = true;
                } else if (index < 0) {
                    anyBelow = true;
                } else if (index > 0) {
                    anyAbove = true;
                }
            }
        }

        private void addThose(int[] indexes) {
            for (int k = 0; k < indexes.length && count < LONGEST; k++) {
                if (indexes[k] != 0) {
                    row[count] = indexes[k] == NA ? NA : indexes[k] - 1;
                    count++;
                }
            }
        }

        private void addOthers(int[] indexes, int length) {
            for (int place = 0; place < length && count < LONGEST; place++) {
                boolean leftOut = false;
                for (int index : indexes) {
                    leftOut = leftOut || index == -1 - place;
                }
                if (!leftOut) {
                    row[count] = place;
                    count++;
                }
            }
        }
    }

    /**
     * Evaluates expressions. An evaluation that ends without a value answers null, and then either failed or
     * ending tells why: control goes back level by level, without exceptions.
     */
    private static final class Evaluator {
        final Program program;
        final Environment global = new Environment(null, 0);
        int environments;
        int steps;
        int argumentsEvaluated;
        /** The failure that evaluation is ending with, and after a run the one that it ended with; or 0. */
        int failed;
        /** The environment whose call is being ended by a RETURN, and the value for it. */
        private Environment ending;
        private Value endValue;
        private final Places places = new Places();
        private final Vector nothing = new Vector(new int[0]);
        private final Vector notAvailable = new Vector(NA);
        private final Vector zero = new Vector(0);
        private final Vector one = new Vector(1);

        Evaluator(Program program) {
            this.program = program;
        }

        Value perform(int expression) {
            steps = 0;
            argumentsEvaluated = 0;
            failed = 0;
            Value value = evaluate(expression, global, 0);
            return value == null ? takeEndValue(global) : value;
        }

        int forget() {
            int forgotten = environments;
            environments = 0;
            global.clear();
            return forgotten;
        }

        /** open tells how many expressions are being evaluated around this one. */
        private Value evaluate(int expression, Environment in, int open) {
            if (steps >= STEPS || open >= OPEN) {
                return fail(LIMIT);
            }
            steps++;
            Expression x = program.expressions[expression];
            switch (x.kind) {
                case NUMBER:
                    return x.number;
                case NOT_AVAILABLE:
                    return notAvailable;
                case NULL:
                    return nothing;
                case VARIABLE:
                    return read(x, in, open + 1);
                case ASSIGN:
                case ASSIGN_AROUND:
                    return assign(x, in, open + 1);
                case NOT:
                case LENGTH:
                case SUM:
                case RAISE:
                    return evaluateOfOne(x, in, open + 1);
                case REPLACE:
                    return replace(x, in, open + 1);
                case IF:
                    return choose(x, in, open + 1);
                case WHILE:
                    return repeat(x, in, open + 1);
                case THEN:
                    return evaluate(x.a, in, open + 1) == null ? null : evaluate(x.b, in, open + 1);
                case FUNCTION:
                    return new Function(x.a, x.b, x.c, in);
                case CALL:
                    return call(x, in, open + 1);
                case ABSENT:
                    return absent(x, in);
                case RETURN:
                    return endCall(x, in, open + 1);
                case CATCH:
                    return attempt(x, in, open + 1);
                default:
                    return evaluateOfTwo(x, in, open + 1);
            }
        }

        private Vector fail(int number) {
            failed = number;
            return null;
        }

        private Vector truth(boolean isSo) {
            return isSo ? one : zero;
        }

        private Value read(Expression x, Environment in, int open) {
            Held held = in.lookUp(x.a);
            if (held == null) {
                return fail(NOT_FOUND);
            }
            return valueOf(held, open);
        }

        private Value valueOf(Held held, int open) {
            if (held instanceof Argument argument) {
                return argument.known == null ? evaluateArgument(argument, open) : argument.known;
            }
            return held instanceof Value value ? value : null;
        }

        private Value evaluateArgument(Argument argument, int open) {
            if (argument.beingEvaluated) {
                return fail(WANTED_WITHIN);
            }
            argument.beingEvaluated = true;
            Value value = evaluate(argument.expression, argument.home, open);
            argument.beingEvaluated = false;
            if (value != null) {
                argument.known = value;
                argumentsEvaluated++;
            }
            return value;
        }

        private Value assign(Expression x, Environment in, int open) {
            Value value = evaluate(x.b, in, open);
            if (value != null) {
                Environment where = x.kind == ASSIGN ? in : in.nearestAround(x.a);
                where.held[x.a] = value;
            }
            return value;
        }

        /** The elements of a vector that is wanted; null without a value, and for a function, which is a failure. */
        private int[] elementsOf(int part, Environment in, int open) {
            Value value = evaluate(part, in, open);
            if (value instanceof Vector vector) {
                return vector.elements;
            }
            if (value != null) {
                fail(WRONG_SORT);
            }
            return null;
        }

        private Value evaluateOfOne(Expression x, Environment in, int open) {
            int[] elements = elementsOf(x.a, in, open);
            if (elements == null) {
                return null;
            }
            switch (x.kind) {
                case NOT:
                    return negate(elements);
                case LENGTH:
                    return new Vector(elements.length);
                case SUM:
                    return new Vector(Elements.sum(elements));
                default:
                    return raise(Elements.first(elements));
            }
        }

        private Vector negate(int[] elements) {
            int[] result = new int[elements.length];
            for (int k = 0; k < result.length; k++) {
                result[k] = Elements.not(elements[k]);
            }
            return new Vector(result);
        }

        private Vector raise(int number) {
            return fail(number >= 0 && number < RAISED_RANGE ? RAISED + number : RAISED);
        }

        private Value evaluateOfTwo(Expression x, Environment in, int open) {
            Value first = evaluate(x.a, in, open);
            if (first == null) {
                return null;
            }
            Value second = evaluate(x.b, in, open);
            if (second == null) {
                return null;
            }
            if (first instanceof Vector p && second instanceof Vector q) {
                return combine(x, p.elements, q.elements);
            }
            return x.kind == SAME ? truth(first == second) : fail(WRONG_SORT);
        }

        private Vector combine(Expression x, int[] p, int[] q) {
            switch (x.kind) {
                case JOIN:
                    return join(p, q);
                case RANGE:
                    return range(Elements.first(p), Elements.first(q));
                case PICK:
                    return pick(p, q);
                case SAME:
                    return truth(Elements.same(p, q));
                default:
                    return pairUp(x, p, q);
            }
        }

        private Vector pairUp(Expression x, int[] p, int[] q) {
            if (p.length == 0 || q.length == 0) {
                return nothing;
            }
            int[] result = new int[Math.max(p.length, q.length)];
            for (int k = 0; k < result.length; k++) {
                result[k] = Elements.pair(x.kind, x.c, p[k % p.length], q[k % q.length]);
            }
            return new Vector(result);
        }

        private Vector join(int[] p, int[] q) {
            if (p.length + q.length > LONGEST) {
                return fail(TOO_LONG);
            }
            int[] result = Arrays.copyOf(p, p.length + q.length);
            System.arraycopy(q, 0, result, p.length, q.length);
            return new Vector(result);
        }

        private Vector range(int from, int to) {
            if (from == NA || to == NA) {
                return fail(NO_ELEMENT);
            }
            int distance = Math.abs(to - from);
            if (distance >= LONGEST) {
                return fail(TOO_LONG);
            }
            int[] result = new int[distance + 1];
            for (int k = 0; k <= distance; k++) {
                result[k] = from <= to ? from + k : from - k;
            }
            return new Vector(result);
        }

        private Vector pick(int[] elements, int[] indexes) {
            if (!places.find(indexes, elements.length, true)) {
                return fail(WRONG_INDEX);
            }
            int[] result = new int[places.count];
            for (int k = 0; k < result.length; k++) {
                int place = places.row[k];
                result[k] = place >= 0 && place < elements.length ? elements[place] : NA;
            }
            return new Vector(result);
        }

        private Value replace(Expression x, Environment in, int open) {
            Value indexes = evaluate(x.b, in, open);
            if (indexes == null) {
                return null;
            }
            Value given = evaluate(x.c, in, open);
            if (given == null) {
                return null;
            }
            if (!(indexes instanceof Vector) || !(given instanceof Vector)) {
                return fail(WRONG_SORT);
            }
            Held held = in.lookUp(x.a);
            Value old = held == null ? nothing : valueOf(held, open);
            if (old == null) {
                return null;
            }
            if (old instanceof Vector p && indexes instanceof Vector q && given instanceof Vector r) {
                return store(p.elements, q.elements, r, in, x.a);
            }
            return fail(WRONG_SORT);
        }

        private Vector store(int[] old, int[] indexes, Vector given, Environment in, int variable) {
            if (!places.find(indexes, old.length, false)) {
                return fail(WRONG_INDEX);
            }
            if (places.count == 0) {
                return given;
            }
            if (given.elements.length == 0) {
                return fail(NO_ELEMENT);
            }
            int length = Math.max(old.length, places.reach());
            if (length > LONGEST) {
                return fail(TOO_LONG);
            }
            in.held[variable] = new Vector(replaced(old, length, given.elements));
            return given;
        }

        /** A copy of the old elements, with those at the places found being the given ones. */
        private int[] replaced(int[] old, int length, int[] given) {
            int[] result = Arrays.copyOf(old, length);
            for (int k = old.length; k < length; k++) {
                result[k] = NA;
            }
            for (int k = 0; k < places.count; k++) {
                result[places.row[k]] = given[k % given.length];
            }
            return result;
        }

        /** The first element of a condition; NA if it ended without one, or is a failure. */
        private int condition(int part, Environment in, int open) {
            int[] elements = elementsOf(part, in, open);
            if (elements == null) {
                return NA;
            }
            int first = Elements.first(elements);
            if (first == NA) {
                fail(NO_CONDITION);
            }
            return first;
        }

        private Value choose(Expression x, Environment in, int open) {
            int condition = condition(x.a, in, open);
            if (condition == NA) {
                return null;
            }
            if (condition != 0) {
                return evaluate(x.b, in, open);
            }
            return x.c == NONE ? nothing : evaluate(x.c, in, open);
        }

        private Value repeat(Expression x, Environment in, int open) {
            // Each round takes a step at least, so that the limit of steps ends the rounds before this count does.
            for (int round = 0; round <= STEPS; round++) {
                int condition = condition(x.a, in, open);
                if (condition == 0) {
                    return nothing;
                }
                if (condition == NA || evaluate(x.b, in, open) == null) {
                    return null;
                }
            }
            return fail(LIMIT);
        }

        private Value call(Expression x, Environment in, int open) {
            Value value = evaluate(x.a, in, open);
            if (value == null) {
                return null;
            }
            return value instanceof Function function ? enter(function, x, in, open) : fail(WRONG_SORT);
        }

        private Value enter(Function function, Expression x, Environment in, int open) {
            int given = (x.b == NONE ? 0 : 1) + (x.c == NONE ? 0 : 1);
            if (given > function.parameters) {
                return fail(WRONG_CALL);
            }
            if (environments >= ENVIRONMENTS) {
                return fail(LIMIT);
            }
            environments++;
            Environment made = new Environment(function, given);
            if (given > 0) {
                made.held[function.first] = new Argument(x.b, in);
            }
            if (given > 1) {
                made.held[function.first + 1] = new Argument(x.c, in);
            }
            Value value = evaluate(function.body, made, open);
            made.over = true;
            return value == null ? takeEndValue(made) : value;
        }

        private Value absent(Expression x, Environment in) {
            if (in.called == null || !in.called.hasParameter(x.a)) {
                return fail(WRONG_CALL);
            }
            return truth(x.a - in.called.first >= in.given);
        }

        private Value endCall(Expression x, Environment in, int open) {
            Value value = evaluate(x.a, in, open);
            if (value == null) {
                return null;
            }
            if (in.over) {
                return fail(WRONG_CALL);
            }
            ending = in;
            endValue = value;
            return null;
        }

        /** The value that a RETURN gave for the call of an environment; null if none is ending that call. */
        private Value takeEndValue(Environment of) {
            if (ending != of) {
                return null;
            }
            Value value = endValue;
            ending = null;
            endValue = null;
            return value;
        }

        private Value attempt(Expression x, Environment in, int open) {
            Value value = evaluate(x.a, in, open);
            if (value != null || failed == 0 || failed == LIMIT) {
                return value;
            }
            in.held[CAUGHT] = new Vector(failed);
            failed = 0;
            return evaluate(x.b, in, open);
        }
    }
}
