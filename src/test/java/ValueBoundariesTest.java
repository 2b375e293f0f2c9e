import java.util.stream.IntStream;

/** The boundary cases of values and of kinds 6 to 11, 14, 15 and 25: a method for each sentence of the terms. */
public final class ValueBoundariesTest {
    private static final Check CHECK = new Check("ValueBoundariesTest");
    private static final int NA = Script.NA;
    private static final int FAR = 1000000000;
    private static final int LONGEST = 16;
    private static final int[] EDGES = {NA, -FAR, 1 - FAR, -31623, -31622, -3, -2, -1, 0, 1, 2, 3, 31622, 31623, FAR - 1,
        FAR};

    public static void main(String[] args) {
        moreThanSixteenJoined();
        moreThanSixteenInARange();
        moreThanSixteenReplaced();
        failureOneChangesNothing();
        outOfRangeIsNotAvailable();
        outOfRangeInOneElementAlone();
        divisorZero();
        comparisonOfNotAvailable();
        logicInThreeValues();
        nullIfOneIsNull();
        shorterBeginsAnew();
        notOfEach();
        joinOfNothing();
        rangeOfNothing();
        nullHasNoElements();
        sumOfNothingAndTooMuch();
        sameWithoutElements();
        functionWhereAVectorIsWanted();
        CHECK.end();
    }

    /** The numbers 1 .. length; NULL for 0. */
    private static int upTo(Script s, int length) {
        return length == 0 ? s.nothing() : s.range(s.number(1), s.number(length));
    }

    private static void moreThanSixteenJoined() {
        for (int p = 0; p <= LONGEST; p++) {
            for (int q = 0; q <= LONGEST; q++) {
                Script s = new Script(CHECK, "A result with more than 16 elements is a FAILURE 1");
                int joined = s.join(upTo(s, p), upTo(s, q));
                if (p + q > LONGEST) {
                    s.fails(p + " and " + q, 1, joined);
                } else {
                    int of = p;
                    s.gives(p + " and " + q, joined, IntStream.range(0, p + q).map(k -> k < of ? k + 1 : k - of + 1)
                            .toArray());
                }
            }
        }
    }

    private static void moreThanSixteenInARange() {
        for (int from : new int[] {0, -8, 5, FAR - 20, 20 - FAR}) {
            for (int way = -1; way <= 1; way += 2) {
                for (int steps = 0; steps <= 20; steps++) {
                    rangeOf(from, way, steps);
                }
            }
        }
        for (int far : new int[] {FAR, -FAR}) {
            Script s = new Script(CHECK, "from one end of the numbers to the other");
            s.fails("from " + far, 1, s.range(s.number(far), s.number(-far)));
        }
    }

    private static void rangeOf(int from, int way, int steps) {
        Script s = new Script(CHECK, "11 from the first element of a in steps of 1 or -1 to that of b");
        int range = s.range(s.number(from), s.number(from + way * steps));
        String what = steps + " steps of " + way + " from " + from;
        if (steps + 1 > LONGEST) {
            s.fails(what, 1, range);
        } else {
            s.gives(what, range, IntStream.rangeClosed(0, steps).map(k -> from + way * k).toArray());
        }
    }

    private static void moreThanSixteenReplaced() {
        for (int length : new int[] {0, 1, 3, 15, 16}) {
            for (int index : new int[] {1, 2, 14, 15, 16, 17, 18, 32, FAR}) {
                Script s = new Script(CHECK, "13 beyond the end the vector grows, by NA between; 17 are too many");
                s.quietly(s.set(2, upTo(s, length)));
                int replaced = s.replace(2, s.number(index), s.number(-5));
                if (index > LONGEST) {
                    s.fails(index + " in " + length, 1, replaced);
                    s.has(index + " in " + length, 2, IntStream.rangeClosed(1, length).toArray());
                } else {
                    s.gives(index + " in " + length, replaced, -5);
                    s.has(index + " in " + length, 2, IntStream.rangeClosed(1, Math.max(length, index))
                            .map(k -> k == index ? -5 : k <= length ? k : NA).toArray());
                }
            }
        }
    }

    private static void failureOneChangesNothing() {
        Script s = new Script(CHECK, "a result that is too long is assigned nowhere");
        int sixteen = upTo(s, LONGEST);
        s.quietly(s.set(0, s.number(7)));
        s.fails("assigned", 1, s.set(0, s.join(sixteen, s.number(1))));
        s.fails("assigned around", 1, s.setAround(0, s.join(s.number(1), sixteen)));
        s.has("as before", 0, 7);
        CHECK.answers("the last value is as before", 7, () -> s.language.element(0));
    }

    /** What arithmetic on numbers gives by long arithmetic; NA out of range and for a divisor 0. */
    private static int calculated(int operation, long x, long y) {
        if (x == NA || y == NA || operation >= 3 && y == 0) {
            return NA;
        }
        long down = operation < 3 ? 0 : x / y - (x % y != 0 && x < 0 != y < 0 ? 1 : 0);
        long[] results = {x + y, x - y, x * y, down, x - y * down};
        return Math.abs(results[operation]) > FAR ? NA : (int) results[operation];
    }

    private static void outOfRangeIsNotAvailable() {
        for (int operation = 0; operation <= 4; operation++) {
            for (int x : EDGES) {
                Script s = new Script(CHECK, "a number that would be out of range is NA; operation " + operation);
                for (int y : EDGES) {
                    s.gives(x + " and " + y, s.arithmetic(operation, s.vector(x), s.vector(y)),
                            calculated(operation, x, y));
                }
            }
        }
    }

    private static void outOfRangeInOneElementAlone() {
        Script s = new Script(CHECK, "out of range in one element alone");
        int row = s.vector(FAR, 1, -FAR, FAR - 1);
        s.gives("sum", s.plus(row, s.number(1)), NA, 2, 1 - FAR, FAR);
        s.gives("difference", s.arithmetic(1, row, s.number(1)), FAR - 1, 0, NA, FAR - 2);
        s.gives("product", s.arithmetic(2, row, s.number(2)), NA, 2, NA, NA);
        s.gives("back from NA", s.arithmetic(1, s.plus(row, s.number(1)), s.number(1)), NA, 1, -FAR, FAR - 1);
    }

    private static void divisorZero() {
        Script s = new Script(CHECK, "6 quotient and what remains, both NA for a divisor 0");
        int row = s.vector(7, 0, -7, FAR);
        int by = s.vector(2, 0, 0, 1);
        s.gives("quotient", s.arithmetic(3, row, by), 3, NA, NA, FAR);
        s.gives("remainder", s.arithmetic(4, row, by), 1, NA, NA, 0);
        s.gives("zero divided", s.arithmetic(3, s.number(0), s.vector(-1, 1, 0)), 0, 0, NA);
        s.gives("it is no failure", s.attempt(s.arithmetic(3, row, s.number(0)), s.number(1)), NA, NA, NA, NA);
    }

    private static void comparisonOfNotAvailable() {
        for (int x : EDGES) {
            Script s = new Script(CHECK, "7 comparison: 1 or 0, NA if one is NA");
            for (int y : EDGES) {
                boolean known = x != NA && y != NA;
                s.gives(x + " = " + y, s.comparison(0, s.vector(x), s.vector(y)), !known ? NA : x == y ? 1 : 0);
            }
            for (int y : new int[] {NA, -FAR, -1, 0, 1, FAR}) {
                boolean known = x != NA && y != NA;
                s.gives(x + " < " + y, s.comparison(1, s.vector(x), s.vector(y)), !known ? NA : x < y ? 1 : 0);
                s.gives(x + " <= " + y, s.comparison(2, s.vector(x), s.vector(y)), !known ? NA : x <= y ? 1 : 0);
            }
        }
    }

    /** The truth values that an element may stand for: NA may be either. */
    private static int[] mayBe(int x) {
        return x == NA ? new int[] {0, 1} : new int[] {x == 0 ? 0 : 1};
    }

    private static int decided(int operation, int x, int y) {
        int[] results = IntStream.of(mayBe(x)).flatMap(p -> IntStream.of(mayBe(y)).map(q -> operation == 0 ? p & q : p | q))
                .distinct().toArray();
        return results.length == 1 ? results[0] : NA;
    }

    private static void logicInThreeValues() {
        int[] elements = {NA, 0, 1, 2, -1, FAR, -FAR};
        for (int operation = 0; operation <= 1; operation++) {
            for (int x : elements) {
                Script s = new Script(CHECK, "8 logic, in three values; operation " + operation);
                for (int y : elements) {
                    s.gives(x + " and " + y, s.logic(operation, s.vector(x), s.vector(y)), decided(operation, x, y));
                }
            }
        }
    }

    private static void nullIfOneIsNull() {
        int[] last = {4, 2, 1};
        for (int kind = 6; kind <= 8; kind++) {
            for (int operation = 0; operation <= last[kind - 6]; operation++) {
                Script s = new Script(CHECK, "Of 6 to 8: NULL if a or b is NULL; " + kind + ", " + operation);
                int nothing = s.nothing();
                for (int other : new int[] {s.number(0), s.number(1), s.na(), upTo(s, LONGEST), nothing}) {
                    s.gives("first", s.language.expression(kind, nothing, other, operation));
                    s.gives("second", s.language.expression(kind, other, nothing, operation));
                }
            }
        }
    }

    private static void shorterBeginsAnew() {
        for (int p = 1; p <= LONGEST; p++) {
            for (int q = 1; q <= LONGEST; q++) {
                Script s = new Script(CHECK, "as many elements as the longer one has, the shorter one beginning anew");
                int hundreds = s.arithmetic(2, upTo(s, q), s.number(100));
                int first = p;
                int second = q;
                s.gives(p + " and " + q, s.plus(upTo(s, p), hundreds), IntStream.range(0, Math.max(p, q))
                        .map(k -> k % first + 1 + 100 * (k % second + 1)).toArray());
            }
        }
    }

    private static void notOfEach() {
        Script s = new Script(CHECK, "9 not: 1 for 0, 0 for others, NA for NA");
        s.gives("each", s.not(s.vector(0, 1, -1, FAR, -FAR, NA)), 1, 0, 0, 0, 0, NA);
        s.gives("NULL", s.not(s.nothing()));
        s.gives("sixteen", s.not(upTo(s, LONGEST)), new int[LONGEST]);
    }

    private static void joinOfNothing() {
        Script s = new Script(CHECK, "10 the elements of a and then of b, NULL being without any");
        int nothing = s.nothing();
        s.gives("both NULL", s.join(nothing, nothing));
        s.gives("NULL first", s.join(nothing, s.na()), NA);
        s.gives("NULL second", s.join(s.na(), nothing), NA);
        s.gives("sixteen and NULL", s.length(s.join(upTo(s, LONGEST), nothing)), LONGEST);
    }

    private static void rangeOfNothing() {
        Script s = new Script(CHECK, "11 one of them NULL or NA: FAILURE 5");
        int one = s.number(1);
        int nothing = s.nothing();
        int na = s.na();
        for (int wrong : new int[] {nothing, na, s.vector(NA, 1)}) {
            s.fails("first", 5, s.range(wrong, one));
            s.fails("second", 5, s.range(one, wrong));
            s.fails("both", 5, s.range(wrong, wrong));
        }
        s.fails("NULL and NA", 5, s.range(nothing, na));
        s.gives("NA behind the first element", s.range(s.vector(1, NA), s.vector(2, NA)), 1, 2);
        s.gives("one element", s.range(one, one), 1);
    }

    private static void nullHasNoElements() {
        Script s = new Script(CHECK, "14 how many elements a has, NULL being without any");
        s.gives("NULL", s.length(s.nothing()), 0);
        s.gives("NA", s.length(s.na()), 1);
        s.gives("sixteen", s.length(upTo(s, LONGEST)), LONGEST);
        s.gives("NULL itself", s.nothing());
        s.quietly(s.set(3, s.nothing()));
        CHECK.answers("a variable with NULL", 0, () -> s.language.variable(3));
    }

    private static void sumOfNothingAndTooMuch() {
        Script s = new Script(CHECK, "15 their sum, NA if one is NA or it is out of range, 0 without any");
        s.gives("NULL", s.sum(s.nothing()), 0);
        s.gives("NA", s.sum(s.na()), NA);
        s.gives("NA at the end", s.sum(s.vector(1, 2, NA)), NA);
        s.gives("NA at the beginning", s.sum(s.vector(NA, 2)), NA);
        for (int sign = -1; sign <= 1; sign += 2) {
            s.gives("the farthest", s.sum(s.vector(sign * FAR, 0)), sign * FAR);
            s.gives("one farther", s.sum(s.vector(sign * FAR, sign)), NA);
            s.gives("there and back", s.sum(s.vector(sign * FAR, sign * FAR, -sign * FAR)), sign * FAR);
            int far = s.plus(s.arithmetic(2, upTo(s, LONGEST), s.number(0)), s.number(sign * FAR));
            s.gives("sixteen of the farthest", s.sum(far), NA);
        }
        s.gives("once around all ints", s.sum(s.vector(FAR, FAR, FAR, FAR, 294967296)), NA);
    }

    private static void sameWithoutElements() {
        Script s = new Script(CHECK, "25 both NULL, vectors of the same elements, NA being the same as NA");
        int nothing = s.nothing();
        int function = s.function(nothing, 0, 0);
        s.gives("both NULL", s.same(nothing, s.pick(s.number(1), s.number(0))), 1);
        for (int other : new int[] {s.number(0), s.na(), s.number(1), function}) {
            s.gives("NULL first", s.same(nothing, other), 0);
            s.gives("NULL second", s.same(other, nothing), 0);
        }
        s.gives("NA and NA", s.same(s.na(), s.arithmetic(3, s.number(1), s.number(0))), 1);
        s.gives("NA and a number", s.same(s.vector(1, NA), s.vector(1, 0)), 0);
        s.gives("the first one differs", s.same(s.vector(0, 2, 3), s.vector(1, 2, 3)), 0);
        s.gives("the last one differs", s.same(s.vector(1, 2, 3), s.vector(1, 2, 4)), 0);
        s.gives("one longer", s.same(s.vector(1, 1), s.vector(1, 1, 1)), 0);
        s.gives("sixteen", s.same(upTo(s, LONGEST), upTo(s, LONGEST)), 1);
        s.gives("functions of two evaluations", s.same(function, function), 0);
        s.gives("a function of one", s.then(s.set(0, function), s.same(s.get(0), s.get(0))), 1);
    }

    private static void functionWhereAVectorIsWanted() {
        int[][] kindsAndLastOperations = {{6, 4}, {7, 2}, {8, 1}, {10, 0}, {11, 0}, {12, 0}};
        for (int[] kind : kindsAndLastOperations) {
            for (int operation = 0; operation <= kind[1]; operation++) {
                functionInEitherPart(kind[0], operation);
            }
        }
        for (int kind : new int[] {9, 14, 15, 16, 17, 23}) {
            Script s = new Script(CHECK, "FAILURE 3 (a function where a vector is wanted), kind " + kind);
            int number = s.number(1);
            s.fails("the only one", 3, s.language.expression(kind, s.function(number, 0, 0), number, number));
        }
    }

    private static void functionInEitherPart(int kind, int operation) {
        Script s = new Script(CHECK, "FAILURE 3 is found when all parts have their values, kind " + kind);
        int function = s.function(s.nothing(), 0, 0);
        int assigning = s.set(4, s.nothing());
        s.fails("first", 3, s.language.expression(kind, function, assigning, operation));
        s.has("the second was evaluated", 4);
        s.fails("second", 3, s.language.expression(kind, assigning, function, operation));
        s.fails("both", 3, s.language.expression(kind, function, function, operation));
        s.fails("a failing second part", 4, s.language.expression(kind, function, s.get(8), operation));
    }
}
