/** The terms: kinds 6 to 9, 14, 15 and 25. */
public final class ArithmeticTest {
    private static final Check CHECK = new Check("ArithmeticTest");
    private static final int NA = Script.NA;
    private static final int FAR = 1000000000;

    public static void main(String[] args) {
        arithmetic();
        ranges();
        comparison();
        logic();
        not();
        recycling();
        lengthAndSum();
        same();
        functionsForVectors();
        orderOfParts();
        CHECK.end();
    }

    private static void arithmeticIs(int operation, int x, int y, int want) {
        Script s = new Script(CHECK, "arithmetic " + operation);
        s.gives(x + " and " + y, s.arithmetic(operation, s.vector(x), s.vector(y)), want);
    }

    private static void arithmetic() {
        int[][] pairs = {{7, 2}, {-7, 2}, {7, -2}, {-7, -2}, {6, 3}, {0, 5}, {-1, FAR - 1}, {1, 1 - FAR}};
        for (int[] pair : pairs) {
            int x = pair[0];
            int y = pair[1];
            arithmeticIs(0, x, y, x + y);
            arithmeticIs(1, x, y, x - y);
            arithmeticIs(3, x, y, (int) Math.floor((double) x / y));
            arithmeticIs(4, x, y, x - y * (int) Math.floor((double) x / y));
        }
        arithmeticIs(2, -7, 6, -42);
        arithmeticIs(3, -7, 2, -4);
        arithmeticIs(4, -7, 2, 1);
        arithmeticIs(4, 7, -2, -1);
        arithmeticIs(3, FAR, 0, NA);
        arithmeticIs(4, 5, 0, NA);
        arithmeticIs(3, 0, 0, NA);
        for (int operation = 0; operation <= 4; operation++) {
            arithmeticIs(operation, NA, 3, NA);
            arithmeticIs(operation, 0, NA, NA);
            arithmeticIs(operation, NA, NA, NA);
            arithmeticIs(operation, NA, 0, NA);
        }
    }

    private static void ranges() {
        arithmeticIs(0, FAR, 0, FAR);
        arithmeticIs(0, FAR, 1, NA);
        arithmeticIs(0, -FAR, -1, NA);
        arithmeticIs(0, FAR, FAR, NA);
        arithmeticIs(1, -FAR, 0, -FAR);
        arithmeticIs(1, -FAR, 1, NA);
        arithmeticIs(1, FAR, -1, NA);
        arithmeticIs(2, 100000, 10000, FAR);
        arithmeticIs(2, 100000, -10000, -FAR);
        arithmeticIs(2, 100001, 10000, NA);
        arithmeticIs(2, FAR, -FAR, NA);
        arithmeticIs(2, 65536, 65536, NA);
        arithmeticIs(3, -FAR, -1, FAR);
        arithmeticIs(4, -FAR, FAR, 0);
    }

    private static void comparison() {
        int[][] rows = {{1, 2, 0, 1, 1}, {2, 1, 0, 0, 0}, {2, 2, 1, 0, 1}, {-FAR, FAR, 0, 1, 1},
            {NA, 1, NA, NA, NA}, {1, NA, NA, NA, NA}, {NA, NA, NA, NA, NA}, {0, NA, NA, NA, NA}};
        for (int[] row : rows) {
            for (int operation = 0; operation <= 2; operation++) {
                Script s = new Script(CHECK, "comparison " + operation);
                int compared = s.comparison(operation, s.vector(row[0]), s.vector(row[1]));
                s.gives(row[0] + " and " + row[1], compared, row[2 + operation]);
            }
        }
    }

    private static void logic() {
        int[][] rows = {{0, 0, 0, 0}, {0, 1, 0, 1}, {1, 0, 0, 1}, {1, 1, 1, 1}, {5, -3, 1, 1}, {0, -3, 0, 1},
            {0, NA, 0, NA}, {NA, 0, 0, NA}, {1, NA, NA, 1}, {NA, 1, NA, 1}, {-2, NA, NA, 1}, {NA, 7, NA, 1},
            {NA, NA, NA, NA}};
        for (int[] row : rows) {
            for (int operation = 0; operation <= 1; operation++) {
                Script s = new Script(CHECK, "logic " + operation);
                int logic = s.logic(operation, s.vector(row[0]), s.vector(row[1]));
                s.gives(row[0] + " and " + row[1], logic, row[2 + operation]);
            }
        }
    }

    private static void not() {
        Script s = new Script(CHECK, "not");
        s.gives("each", s.not(s.vector(0, 1, -1, 7, NA)), 1, 0, 0, 0, NA);
        s.gives("NULL", s.not(s.nothing()));
        s.fails("function", 3, s.not(s.function(0, 0, 0)));
    }

    private static void recycling() {
        Script s = new Script(CHECK, "recycling");
        int three = s.vector(1, 2, 3);
        int seven = s.vector(10, 20, 30, 40, 50, 60, 70);
        int nothing = s.nothing();
        s.gives("shorter second", s.plus(seven, three), 11, 22, 33, 41, 52, 63, 71);
        s.gives("shorter first", s.arithmetic(1, three, seven), -9, -18, -27, -39, -48, -57, -69);
        s.gives("comparison", s.comparison(1, three, s.number(2)), 1, 0, 0);
        s.gives("logic", s.logic(0, s.vector(1, 0), s.vector(1, 1, NA, NA)), 1, 0, NA, 0);
        s.gives("NULL first", s.plus(nothing, three));
        s.gives("NULL second", s.comparison(0, three, nothing));
        s.gives("NULL in logic", s.logic(1, three, nothing));
        s.gives("both NULL", s.logic(0, nothing, nothing));
        s.gives("operands are as before", three, 1, 2, 3);
    }

    private static void lengthAndSum() {
        Script s = new Script(CHECK, "length and sum");
        int nothing = s.nothing();
        int far = s.number(FAR);
        s.gives("length", s.length(s.vector(4, NA, 6)), 3);
        s.gives("length of NULL", s.length(nothing), 0);
        s.gives("sum", s.sum(s.vector(4, -5, 6)), 5);
        s.gives("sum of NULL", s.sum(nothing), 0);
        s.gives("sum with NA", s.sum(s.vector(4, NA, 6)), NA);
        s.gives("sum at the edge", s.sum(s.join(far, s.number(0))), FAR);
        s.gives("sum out of range", s.sum(s.join(far, s.number(1))), NA);
        s.gives("sum below", s.sum(s.vector(-FAR, -1)), NA);
        s.gives("sum back in range", s.sum(s.vector(FAR, FAR, -FAR)), FAR);
        s.gives("sum over what an int holds", s.sum(s.vector(FAR, FAR, FAR, FAR, 294967296)), NA);
        s.fails("length of a function", 3, s.length(s.function(far, 0, 0)));
        s.fails("sum of a function", 3, s.sum(s.function(far, 0, 0)));
    }

    private static void same() {
        Script s = new Script(CHECK, "same");
        int nothing = s.nothing();
        int na = s.na();
        int vector = s.vector(1, NA);
        int function = s.function(nothing, 0, 0);
        s.gives("NULL", s.same(nothing, s.nothing()), 1);
        s.gives("NULL and NA", s.same(nothing, na), 0);
        s.gives("NA and NA", s.same(na, s.na()), 1);
        s.gives("NA and 0", s.same(na, s.number(0)), 0);
        s.gives("vectors", s.same(vector, s.vector(1, NA)), 1);
        s.gives("another end", s.same(vector, s.vector(1, 2)), 0);
        s.gives("longer", s.same(vector, s.join(vector, s.number(1))), 0);
        s.gives("shorter", s.same(vector, s.number(1)), 0);
        s.gives("not recycled", s.same(s.number(1), s.vector(1, 1)), 0);
        s.gives("function and NULL", s.same(function, nothing), 0);
        s.gives("vector and function", s.same(vector, function), 0);
        s.gives("two evaluations", s.same(function, function), 0);
        s.gives("one evaluation", s.then(s.set(0, function), s.same(s.get(0), s.get(0))), 1);
        s.gives("kept elsewhere too", s.then(s.set(1, s.get(0)), s.same(s.get(1), s.get(0))), 1);
    }

    private static void functionsForVectors() {
        Script s = new Script(CHECK, "functions");
        int nothing = s.nothing();
        int one = s.number(1);
        int function = s.function(one, 0, 0);
        s.fails("first of sum", 3, s.plus(function, one));
        s.fails("second of sum", 3, s.plus(one, function));
        s.fails("with NULL", 3, s.plus(nothing, function));
        s.fails("comparison", 3, s.comparison(0, function, function));
        s.fails("logic", 3, s.logic(0, s.number(0), function));
    }

    private static void orderOfParts() {
        Script s = new Script(CHECK, "order");
        int function = s.function(s.nothing(), 0, 0);
        int assigning = s.set(5, s.number(6));
        s.fails("second part before the failure", 3, s.plus(function, assigning));
        s.has("assigned by it", 5, 6);
        s.fails("failure of the second part", 4, s.plus(function, s.get(8)));
        s.gives("first, then second", s.join(s.set(5, s.number(1)), s.set(5, s.number(2))), 1, 2);
        s.has("the second is the last", 5, 2);
    }
}
