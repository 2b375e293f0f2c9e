/** Promise 2: which expressions can be made, and their numbers. */
public final class ExpressionTest {
    private static final Check CHECK = new Check("ExpressionTest");
    private static final int FAR = 1000000000;
    private static final int ODD = -77;

    /** The object that the cases are tried on; each try is on a new one with the expressions 0 .. 2 made. */
    private static VectorLanguage prepared() {
        VectorLanguage x = new VectorLanguage();
        x.expression(0, 1, 0, 0);
        x.expression(0, 2, 0, 0);
        x.expression(2, 0, 0, 0);
        return x;
    }

    public static void main(String[] args) {
        kindsOutOfRange();
        numbers();
        unusedPartsMayBeAnything();
        variables();
        oneExpression();
        twoExpressions();
        operations();
        replacement();
        condition();
        functions();
        calls();
        refusedOnesAreNotMade();
        numberOfExpressions();
        CHECK.end();
    }

    private static void takes(int kind, int a, int b, int c) {
        CHECK.answers(told(kind, a, b, c), 3, () -> prepared().expression(kind, a, b, c));
    }

    private static void refuses(int kind, int a, int b, int c) {
        CHECK.refuses(told(kind, a, b, c), IllegalArgumentException.class,
                () -> prepared().expression(kind, a, b, c));
    }

    private static String told(int kind, int a, int b, int c) {
        return "expression(" + kind + ", " + a + ", " + b + ", " + c + ")";
    }

    private static void kindsOutOfRange() {
        for (int kind : new int[] {-1, 26, 27, Integer.MIN_VALUE, Integer.MAX_VALUE}) {
            refuses(kind, 0, 0, 0);
        }
    }

    private static void numbers() {
        for (int number : new int[] {0, 1, -1, FAR, -FAR}) {
            takes(0, number, ODD, ODD);
        }
        for (int number : new int[] {FAR + 1, -FAR - 1, Integer.MIN_VALUE, Integer.MAX_VALUE}) {
            refuses(0, number, 0, 0);
        }
    }

    private static void unusedPartsMayBeAnything() {
        takes(1, ODD, ODD, ODD);
        takes(2, ODD, ODD, ODD);
        takes(3, 0, ODD, ODD);
        takes(4, 0, 0, ODD);
        takes(5, 0, 0, ODD);
        takes(21, 0, ODD, ODD);
        takes(19, 0, 0, ODD);
        takes(19, 0, 0, Integer.MIN_VALUE);
    }

    private static void variables() {
        for (int kind : new int[] {3, 4, 5, 13, 21}) {
            takes(kind, 0, 0, 0);
            takes(kind, 9, 2, 2);
            refuses(kind, -1, 0, 0);
            refuses(kind, 10, 0, 0);
            refuses(kind, Integer.MIN_VALUE, 0, 0);
        }
        for (int kind : new int[] {4, 5}) {
            refuses(kind, 0, 3, 0);
            refuses(kind, 0, -1, 0);
        }
    }

    private static void oneExpression() {
        for (int kind : new int[] {9, 14, 15, 22, 23}) {
            takes(kind, 0, ODD, ODD);
            takes(kind, 2, ODD, ODD);
            refuses(kind, 3, 0, 0);
            refuses(kind, -1, 0, 0);
        }
    }

    private static void twoExpressions() {
        for (int kind : new int[] {10, 11, 12, 17, 18, 24, 25}) {
            takes(kind, 0, 2, ODD);
            takes(kind, 2, 0, ODD);
            refusesWrongPair(kind);
        }
    }

    private static void refusesWrongPair(int kind) {
        refuses(kind, 3, 0, 0);
        refuses(kind, -1, 0, 0);
        refuses(kind, 0, 3, 0);
        refuses(kind, 0, -1, 0);
        refuses(kind, Integer.MAX_VALUE, 0, 0);
        refuses(kind, 0, Integer.MIN_VALUE, 0);
    }

    private static void operations() {
        int[] last = {4, 2, 1};
        for (int kind = 6; kind <= 8; kind++) {
            for (int operation = 0; operation <= last[kind - 6]; operation++) {
                takes(kind, 0, 1, operation);
            }
            refuses(kind, 0, 1, -1);
            refuses(kind, 0, 1, last[kind - 6] + 1);
            refusesWrongPair(kind);
        }
    }

    private static void replacement() {
        takes(13, 4, 0, 2);
        refuses(13, 0, 3, 0);
        refuses(13, 0, -1, 0);
        refuses(13, 0, 0, 3);
        refuses(13, 0, 0, -1);
    }

    private static void condition() {
        takes(16, 0, 1, 2);
        takes(16, 0, 1, -1);
        refuses(16, 0, 1, -2);
        refuses(16, 0, 1, 3);
        refusesWrongPair(16);
    }

    private static void functions() {
        takes(19, 2, 1, 0);
        takes(19, 2, 1, 9);
        takes(19, 2, 2, 0);
        takes(19, 2, 2, 8);
        refuses(19, 0, 1, 10);
        refuses(19, 0, 1, -1);
        refuses(19, 0, 2, 9);
        refuses(19, 0, 2, -1);
        refuses(19, 0, 2, Integer.MAX_VALUE);
        refuses(19, 0, 1, Integer.MIN_VALUE);
        refuses(19, 0, 3, 0);
        refuses(19, 0, -1, 0);
        refuses(19, 3, 0, 0);
        refuses(19, -1, 0, 0);
    }

    private static void calls() {
        takes(20, 0, -1, -1);
        takes(20, 0, 2, -1);
        takes(20, 2, 0, 1);
        refuses(20, 0, -1, 0);
        refuses(20, 0, -1, -2);
        refuses(20, 0, -2, -1);
        refuses(20, 0, 3, -1);
        refuses(20, 0, 0, 3);
        refuses(20, 0, 0, -2);
        refuses(20, -1, -1, -1);
        refuses(20, 3, -1, -1);
    }

    private static void refusedOnesAreNotMade() {
        VectorLanguage x = prepared();
        CHECK.refuses("itself as a part", IllegalArgumentException.class, () -> x.expression(9, 3, 0, 0));
        CHECK.answers("expressions after a refusal", 3, () -> x.count(0));
        CHECK.answers("the next number", 3, () -> x.expression(9, 2, 0, 0));
        CHECK.answers("it can be named now", 4, () -> x.expression(9, 3, 0, 0));
    }

    private static void numberOfExpressions() {
        VectorLanguage x = new VectorLanguage();
        for (int number = 0; number < 120; number++) {
            CHECK.answers("expression " + number, number, () -> x.expression(0, 5, 0, 0));
        }
        CHECK.refuses("the 121st", IllegalStateException.class, () -> x.expression(0, 5, 0, 0));
        CHECK.refuses("the 121st again", IllegalStateException.class, () -> x.expression(9, 119, 0, 0));
        CHECK.refuses("a wrong one then", IllegalArgumentException.class, () -> x.expression(26, 0, 0, 0));
        CHECK.answers("expressions", 120, () -> x.count(0));
        CHECK.answers("the last one runs", 1, () -> x.run(119));
        x.reset();
        CHECK.refuses("the 121st after a reset", IllegalStateException.class, () -> x.expression(0, 5, 0, 0));
    }
}
