import java.util.NoSuchElementException;

/** Promise 7: the elements of a global variable's vector. */
public final class ValueTest {
    private static final Check CHECK = new Check("ValueTest");

    public static void main(String[] args) {
        Script s = new Script(CHECK, "value");
        s.quietly(s.set(9, s.vector(3, Script.NA, -1000000000)));
        s.quietly(s.set(0, s.nothing()));
        s.quietly(s.set(1, s.function(0, 0, 0)));
        s.has("vector", 9, 3, Script.NA, -1000000000);
        for (int k : new int[] {-1, 3, Integer.MIN_VALUE, Integer.MAX_VALUE}) {
            refuses(s, NoSuchElementException.class, 9, k);
        }
        refuses(s, NoSuchElementException.class, 0, 0);
        refuses(s, NoSuchElementException.class, 1, 0);
        refuses(s, NoSuchElementException.class, 2, 0);
        for (int variable : new int[] {-1, 10, Integer.MIN_VALUE, Integer.MAX_VALUE}) {
            refuses(s, IllegalArgumentException.class, variable, 0);
            refuses(s, IllegalArgumentException.class, variable, -1);
        }
        s.quietly(s.replace(9, s.number(2), s.number(8)));
        s.has("replaced", 9, 3, 8, -1000000000);
        CHECK.end();
    }

    private static void refuses(Script s, Class<? extends RuntimeException> want, int variable, int k) {
        CHECK.refuses("value(" + variable + ", " + k + ")", want, () -> s.language.value(variable, k));
    }
}
