import java.util.ArrayDeque;
import java.util.ArrayList;
import java.util.Collections;
import java.util.Deque;
import java.util.HashMap;
import java.util.List;
import java.util.Map;
import java.util.NoSuchElementException;

/**
 * A second interpreter for the same document, written another way: failures and ended calls are exceptions, the
 * open expressions are a stack, vectors are lists. It shares no code with VectorLanguage and cares for no room.
 */
final class Model {
    private static final int NA = Integer.MIN_VALUE;
    private static final int FAR = 1000000000;
    private static final List<Integer> NULL = Collections.emptyList();
    /** For each kind what a, b and c are: e expression, o expression or none, v variable, n number, - anything. */
    private static final String[] PARTS = {"n--", "---", "---", "v--", "ve-", "ve-", "ee4", "ee2", "ee1", "e--", "ee-",
        "ee-", "ee-", "vee", "e--", "e--", "eeo", "ee-", "ee-", "e2-", "eoo", "v--", "e--", "e--", "ee-", "ee-"};

    private record Closure(int body, int parameters, int first, Scope scope) {
    }

    private static final class Scope {
        final Map<Integer, Object> has = new HashMap<>();
        final Scope outer;
        final Closure called;
        final int given;
        boolean over;

        Scope(Scope outer, Closure called, int given) {
            this.outer = outer;
            this.called = called;
            this.given = given;
        }
    }

    private static final class Promise {
        final int expression;
        final Scope scope;
        Object value;
        boolean open;

        Promise(int expression, Scope scope) {
            this.expression = expression;
            this.scope = scope;
        }
    }

    private static final class Failed extends RuntimeException {
        private static final long serialVersionUID = 1;
        final int number;

        Failed(int number) {
            super(null, null, false, false);
            this.number = number;
        }
    }

    private static final class Ended extends RuntimeException {
        private static final long serialVersionUID = 1;
        final transient Scope scope;
        final transient Object value;

        Ended(Scope scope, Object value) {
            super(null, null, false, false);
            this.scope = scope;
            this.value = value;
        }
    }

    private final List<int[]> made = new ArrayList<>();
    private final Deque<Integer> open = new ArrayDeque<>();
    private Scope global = new Scope(null, null, 0);
    private Object last;
    private int scopes;
    private int steps;
    private int promises;
    private int failure;

    int expression(int kind, int a, int b, int c) {
        if (kind < 0 || kind >= PARTS.length) {
            throw new IllegalArgumentException();
        }
        int[] parts = {a, b, c};
        for (int k = 0; k < 3; k++) {
            if (!fits(PARTS[kind].charAt(k), parts[k])) {
                throw new IllegalArgumentException();
            }
        }
        if (kind == 19 && (b == 1 && (c < 0 || c > 9) || b == 2 && (c < 0 || c > 8)) || kind == 20 && b < 0 && c >= 0) {
            throw new IllegalArgumentException();
        }
        if (made.size() == 120) {
            throw new IllegalStateException();
        }
        made.add(new int[] {kind, a, b, c});
        return made.size() - 1;
    }

    private boolean fits(char sort, int part) {
        switch (sort) {
            case 'n':
                return Math.abs((long) part) <= FAR;
            case 'v':
                return part >= 0 && part <= 9;
            case 'e':
                return part >= 0 && part < made.size();
            case 'o':
                return part >= -1 && part < made.size();
            case '-':
                return true;
            default:
                return part >= 0 && part <= sort - '0';
        }
    }

    int run(int expression) {
        if (!fits('e', expression)) {
            throw new NoSuchElementException();
        }
        steps = 0;
        promises = 0;
        failure = 0;
        open.clear();
        try {
            last = evaluate(expression, global);
        } catch (Ended ended) {
            last = ended.value;
        } catch (Failed failed) {
            failure = failed.number;
        }
        if (failure == 0) {
            return size(last);
        }
        throw thrown();
    }

    private RuntimeException thrown() {
        switch (failure) {
            case 1:
            case 8:
                return new IndexOutOfBoundsException();
            case 2:
            case 9:
                return new IllegalStateException();
            case 3:
            case 6:
                return new UnsupportedOperationException();
            case 4:
                return new NoSuchElementException();
            default:
                return new ArithmeticException();
        }
    }

    private static int size(Object value) {
        return value instanceof Closure ? -1 : ((List<?>) value).size();
    }

    int element(int k) {
        if (last == null || last instanceof Closure) {
            throw new IllegalStateException();
        }
        return vector(last).get(k);
    }

    int failure() {
        return failure;
    }

    int variable(int variable) {
        if (!fits('v', variable)) {
            throw new IllegalArgumentException();
        }
        return global.has.containsKey(variable) ? size(global.has.get(variable)) : -2;
    }

    int value(int variable, int k) {
        int size = variable(variable);
        if (k < 0 || k >= size) {
            throw new NoSuchElementException();
        }
        return vector(global.has.get(variable)).get(k);
    }

    int reset() {
        int answer = scopes;
        scopes = 0;
        global = new Scope(null, null, 0);
        last = null;
        return answer;
    }

    int count(int what) {
        if (what < 0 || what > 3) {
            throw new IllegalArgumentException();
        }
        return new int[] {made.size(), scopes, steps, promises}[what];
    }

    private Object evaluate(int expression, Scope scope) {
        if (steps == 400 || open.size() == 40) {
            throw new Failed(9);
        }
        steps++;
        open.push(expression);
        try {
            return evaluated(made.get(expression), scope);
        } finally {
            open.pop();
        }
    }

    private Object evaluated(int[] x, Scope scope) {
        int a = x[1];
        int b = x[2];
        int c = x[3];
        switch (x[0]) {
            case 0:
                return List.of(a);
            case 1:
                return List.of(NA);
            case 2:
                return NULL;
            case 3:
                return found(a, scope, null);
            case 4:
                return assigned(scope, a, evaluate(b, scope), false);
            case 5:
                return assigned(scope, a, evaluate(b, scope), true);
            case 13:
                return replaced(a, evaluate(b, scope), evaluate(c, scope), scope);
            case 16:
                return isTrue(evaluate(a, scope)) ? evaluate(b, scope) : c < 0 ? NULL : evaluate(c, scope);
            case 17:
                while (isTrue(evaluate(a, scope))) {
                    evaluate(b, scope);
                }
                return NULL;
            case 18:
                evaluate(a, scope);
                return evaluate(b, scope);
            case 19:
                return new Closure(a, b, c, scope);
            case 20:
                return called(evaluate(a, scope), b, c, scope);
            case 21:
                return absent(a, scope);
            case 22:
                return ended(evaluate(a, scope), scope);
            case 24:
                return attempted(a, b, scope);
            case 9:
            case 14:
            case 15:
            case 23:
                return ofOne(x[0], vector(evaluate(a, scope)));
            default:
                return ofTwo(x[0], c, evaluate(a, scope), evaluate(b, scope));
        }
    }

    private static List<Integer> vector(Object value) {
        if (value instanceof Closure) {
            throw new Failed(3);
        }
        List<Integer> elements = new ArrayList<>();
        for (Object element : (List<?>) value) {
            elements.add((Integer) element);
        }
        return elements;
    }

    private static int first(List<Integer> elements) {
        return elements.isEmpty() ? NA : elements.get(0);
    }

    private static boolean isTrue(Object value) {
        int first = first(vector(value));
        if (first == NA) {
            throw new Failed(7);
        }
        return first != 0;
    }

    private Object found(int variable, Scope from, Object otherwise) {
        Scope scope = from;
        while (scope != null && !scope.has.containsKey(variable)) {
            scope = scope.outer;
        }
        if (scope == null) {
            if (otherwise == null) {
                throw new Failed(4);
            }
            return otherwise;
        }
        Object has = scope.has.get(variable);
        return has instanceof Promise ? kept((Promise) has) : has;
    }

    private Object kept(Promise promise) {
        if (promise.value != null) {
            return promise.value;
        }
        if (promise.open) {
            throw new Failed(2);
        }
        promise.open = true;
        try {
            promise.value = evaluate(promise.expression, promise.scope);
            promises++;
        } finally {
            promise.open = false;
        }
        return promise.value;
    }

    private static Object assigned(Scope scope, int variable, Object value, boolean around) {
        Scope target = scope;
        if (around && scope.outer != null) {
            target = scope.outer;
            while (!target.has.containsKey(variable) && target.outer != null) {
                target = target.outer;
            }
        }
        target.has.put(variable, value);
        return value;
    }

    private static Object ofOne(int kind, List<Integer> v) {
        switch (kind) {
            case 9:
                v.replaceAll(e -> e == NA ? NA : e == 0 ? 1 : 0);
                return v;
            case 14:
                return List.of(v.size());
            case 15:
                return List.of(v.contains(NA) ? NA : limited(v.stream().mapToLong(e -> e).sum()));
            default:
                int first = first(v);
                throw new Failed(first >= 0 && first <= 99 ? 100 + first : 100);
        }
    }

    private static int limited(long number) {
        return Math.abs(number) > FAR ? NA : (int) number;
    }

    private static Object ofTwo(int kind, int operation, Object a, Object b) {
        if (kind == 25) {
            boolean same = a instanceof Closure || b instanceof Closure ? a == b : a.equals(b);
            return List.of(same ? 1 : 0);
        }
        List<Integer> x = vector(a);
        List<Integer> y = vector(b);
        switch (kind) {
            case 10:
                x.addAll(y);
                return checked(x);
            case 11:
                return ranged(first(x), first(y));
            case 12:
                return picked(x, y);
            default:
                return paired(kind, operation, x, y);
        }
    }

    private static List<Integer> checked(List<Integer> elements) {
        if (elements.size() > 16) {
            throw new Failed(1);
        }
        return elements;
    }

    private static List<Integer> ranged(int from, int to) {
        if (from == NA || to == NA) {
            throw new Failed(5);
        }
        List<Integer> all = new ArrayList<>();
        for (int at = from; at != to && all.size() < 17; at += Integer.signum(to - from)) {
            all.add(at);
        }
        all.add(to);
        return checked(all);
    }

    private static List<Integer> paired(int kind, int operation, List<Integer> x, List<Integer> y) {
        List<Integer> all = new ArrayList<>();
        int size = x.isEmpty() || y.isEmpty() ? 0 : Math.max(x.size(), y.size());
        for (int k = 0; k < size; k++) {
            int p = x.get(k % x.size());
            int q = y.get(k % y.size());
            all.add(kind == 8 ? logic(operation, p, q) : p == NA || q == NA ? NA : plain(kind, operation, p, q));
        }
        return all;
    }

    /** In three values, as doubles: false 0, unknown a half, true 1; and is the least, or the greatest. */
    private static int logic(int operation, int p, int q) {
        double x = p == NA ? 0.5 : p == 0 ? 0 : 1;
        double y = q == NA ? 0.5 : q == 0 ? 0 : 1;
        double both = operation == 0 ? Math.min(x, y) : Math.max(x, y);
        return both == 0.5 ? NA : (int) both;
    }

    private static int plain(int kind, int operation, long p, long q) {
        if (kind == 7) {
            return (operation == 0 ? p == q : operation == 1 ? p < q : p <= q) ? 1 : 0;
        }
        if (operation >= 3 && q == 0) {
            return NA;
        }
        switch (operation) {
            case 0:
                return limited(p + q);
            case 1:
                return limited(p - q);
            case 2:
                return limited(p * q);
            case 3:
                return limited((long) Math.floor((double) p / q));
            default:
                return limited(p - q * (long) Math.floor((double) p / q));
        }
    }

    /** The indexes that are meant, from 1, without zeros; NA stays. */
    private static List<Integer> meant(List<Integer> indexes, int size) {
        List<Integer> all = new ArrayList<>(indexes);
        all.removeIf(index -> index == 0);
        boolean anyNegative = all.stream().anyMatch(index -> index < 0 && index != NA);
        if (!anyNegative) {
            return all;
        }
        if (all.stream().anyMatch(index -> index > 0 || index == NA)) {
            throw new Failed(8);
        }
        List<Integer> rest = new ArrayList<>();
        for (int index = 1; index <= size; index++) {
            if (!all.contains(-index)) {
                rest.add(index);
            }
        }
        return rest;
    }

    private static List<Integer> picked(List<Integer> from, List<Integer> indexes) {
        List<Integer> all = meant(indexes, from.size());
        all.replaceAll(index -> index == NA || index > from.size() ? NA : from.get(index - 1));
        return all;
    }

    private Object replaced(int variable, Object b, Object c, Scope scope) {
        List<Integer> indexes = vector(b);
        List<Integer> given = vector(c);
        List<Integer> old = vector(found(variable, scope, NULL));
        List<Integer> places = meant(indexes, old.size());
        if (places.contains(NA)) {
            throw new Failed(8);
        }
        if (places.isEmpty()) {
            return c;
        }
        if (given.isEmpty()) {
            throw new Failed(5);
        }
        if (Collections.max(places) > 16) {
            throw new Failed(1);
        }
        for (int k = 0; k < places.size(); k++) {
            while (old.size() < places.get(k)) {
                old.add(NA);
            }
            old.set(places.get(k) - 1, given.get(k % given.size()));
        }
        scope.has.put(variable, old);
        return c;
    }

    private Object called(Object function, int b, int c, Scope scope) {
        if (!(function instanceof Closure)) {
            throw new Failed(3);
        }
        Closure closure = (Closure) function;
        int given = b < 0 ? 0 : c < 0 ? 1 : 2;
        if (given > closure.parameters()) {
            throw new Failed(6);
        }
        if (scopes == 90) {
            throw new Failed(9);
        }
        scopes++;
        Scope inner = new Scope(closure.scope(), closure, given);
        for (int k = 0; k < given; k++) {
            inner.has.put(closure.first() + k, new Promise(k == 0 ? b : c, scope));
        }
        try {
            return evaluate(closure.body(), inner);
        } catch (Ended ended) {
            if (ended.scope == inner) {
                return ended.value;
            }
            throw ended;
        } finally {
            inner.over = true;
        }
    }

    private static Object absent(int variable, Scope scope) {
        if (scope.called != null) {
            for (int k = 0; k < scope.called.parameters(); k++) {
                if (scope.called.first() + k == variable) {
                    return List.of(k < scope.given ? 0 : 1);
                }
            }
        }
        throw new Failed(6);
    }

    private static Object ended(Object value, Scope scope) {
        if (scope.over) {
            throw new Failed(6);
        }
        throw new Ended(scope, value);
    }

    private Object attempted(int a, int b, Scope scope) {
        try {
            return evaluate(a, scope);
        } catch (Failed failed) {
            if (failed.number == 9) {
                throw failed;
            }
            scope.has.put(9, List.of(failed.number));
        }
        return evaluate(b, scope);
    }
}
