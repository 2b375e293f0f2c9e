import java.util.Arrays;
import java.util.stream.IntStream;

/** The boundary cases of indexes and of kinds 12 and 13: a method for each sentence of the terms. */
public final class IndexBoundariesTest {
    private static final Check CHECK = new Check("IndexBoundariesTest");
    private static final int NA = Script.NA;
    private static final int FAR = 1000000000;
    private static final int[] INDEXES = {NA, -FAR, -3, -2, -1, 0, 1, 2, 3, 4};
    private static final int MOST_INDEXES = 3;
    private static final int MOST_ELEMENTS = 3;

    public static void main(String[] args) {
        allShortIndexes(new int[0]);
        noIndexes();
        sixteenIndexes();
        farIndexes();
        notAvailableAmongIndexes();
        indexesOfBothSigns();
        replaceByNotAvailableIndex();
        replaceBetweenIsNotAvailable();
        replaceBeginsAnew();
        replaceWithoutElements();
        replaceByNull();
        replaceWhatIsNotLookedUp();
        replaceMustBeVectors();
        replaceLooksUpLast();
        CHECK.end();
    }

    /** Tries these indexes on vectors of each length, then all rows of indexes that begin with them. */
    private static void allShortIndexes(int[] indexes) {
        for (int length = 0; length <= MOST_ELEMENTS; length++) {
            picked(length, indexes);
            for (int given = 0; given <= MOST_ELEMENTS; given++) {
                replaced(length, indexes, given);
            }
        }
        for (int index = 0; index < INDEXES.length && indexes.length < MOST_INDEXES; index++) {
            int[] more = Arrays.copyOf(indexes, indexes.length + 1);
            more[indexes.length] = INDEXES[index];
            allShortIndexes(more);
        }
    }

    /** The places, from 1, that the indexes mean, NA for an NA; null where they are a FAILURE 8. */
    private static int[] meant(int[] indexes, int length) {
        int[] known = IntStream.of(indexes).filter(index -> index != NA).toArray();
        if (IntStream.of(known).allMatch(index -> index >= 0)) {
            return IntStream.of(indexes).filter(index -> index != 0).toArray();
        }
        if (known.length < indexes.length || IntStream.of(known).anyMatch(index -> index > 0)) {
            return null;
        }
        return IntStream.rangeClosed(1, length).filter(k -> IntStream.of(known).noneMatch(index -> index == -k)).toArray();
    }

    /** The elements 10, 20 .. of the vectors that indexes are tried on. */
    private static int[] tens(int length) {
        return IntStream.rangeClosed(1, length).map(k -> 10 * k).toArray();
    }

    private static void picked(int length, int[] indexes) {
        Script s = new Script(CHECK, "12 the elements of a at the indexes b");
        String what = Arrays.toString(indexes) + " of " + length;
        int[] places = meant(indexes, length);
        int picked = s.pick(s.vector(tens(length)), s.vector(indexes));
        if (places == null) {
            s.fails(what, 8, picked);
        } else {
            s.gives(what, picked, IntStream.of(places).map(k -> k == NA || k > length ? NA : 10 * k).toArray());
        }
    }

    private static void replaced(int length, int[] indexes, int given) {
        Script s = new Script(CHECK, "13 with the elements at the indexes b being c");
        String what = Arrays.toString(indexes) + " of " + length + " by " + given;
        int[] elements = IntStream.rangeClosed(1, given).map(k -> -k).toArray();
        int[] places = meant(indexes, length);
        boolean wrong = places == null || IntStream.of(indexes).anyMatch(index -> index == NA);
        s.quietly(s.set(5, s.vector(tens(length))));
        int replaced = s.replace(5, s.vector(indexes), s.vector(elements));
        if (wrong || places.length > 0 && given == 0) {
            s.fails(what, wrong ? 8 : 5, replaced);
            s.has(what, 5, tens(length));
        } else {
            s.gives(what, replaced, elements);
            s.has(what, 5, stored(length, places, elements));
        }
    }

    private static int[] stored(int length, int[] places, int[] elements) {
        int longest = Math.max(length, IntStream.of(places).max().orElse(0));
        int[] result = IntStream.rangeClosed(1, longest).map(k -> k <= length ? 10 * k : NA).toArray();
        for (int k = 0; k < places.length; k++) {
            result[places[k] - 1] = elements[k % elements.length];
        }
        return result;
    }

    private static int upTo(Script s, int length) {
        return s.range(s.number(1), s.number(length));
    }

    private static void noIndexes() {
        Script s = new Script(CHECK, "INDEXES: NULL: none");
        int nothing = s.nothing();
        s.gives("of three", s.pick(upTo(s, 3), nothing));
        s.gives("of NULL", s.pick(nothing, nothing));
        s.gives("zeros alone are none", s.pick(upTo(s, 3), s.vector(0, 0)));
        s.gives("a zero of NULL", s.pick(nothing, s.number(0)));
        s.gives("all but, of NULL", s.pick(nothing, s.number(-1)));
        s.gives("all but all", s.pick(upTo(s, 3), s.vector(-3, -2, -1)));
    }

    private static void sixteenIndexes() {
        Script s = new Script(CHECK, "sixteen indexes");
        int sixteen = upTo(s, 16);
        int nothing = s.nothing();
        int[] counted = IntStream.rangeClosed(1, 16).toArray();
        int[] unknown = IntStream.rangeClosed(1, 16).map(k -> NA).toArray();
        s.gives("each one", s.pick(sixteen, sixteen), counted);
        s.gives("all beyond", s.pick(nothing, sixteen), unknown);
        s.gives("all NA", s.pick(sixteen, s.pick(nothing, sixteen)), unknown);
        s.gives("all but the last", s.pick(sixteen, s.number(-16)), Arrays.copyOf(counted, 15));
        s.gives("all but one beyond", s.pick(sixteen, s.number(-17)), counted);
        s.gives("all but all", s.pick(sixteen, s.range(s.number(-1), s.number(-16))));
        s.gives("replaced by one", s.replace(0, sixteen, s.number(4)), 4);
        s.has("replaced by one", 0, IntStream.rangeClosed(1, 16).map(k -> 4).toArray());
        s.gives("replaced by sixteen", s.replace(0, s.range(s.number(16), s.number(1)), sixteen), counted);
        s.has("replaced by sixteen", 0, IntStream.rangeClosed(1, 16).map(k -> 17 - k).toArray());
    }

    private static void farIndexes() {
        Script s = new Script(CHECK, "counted from 1, NA beyond the end");
        int three = upTo(s, 3);
        s.gives("the first", s.pick(three, s.number(1)), 1);
        s.gives("the last", s.pick(three, s.number(3)), 3);
        s.gives("beyond", s.pick(three, s.vector(4, 16, 17, FAR)), NA, NA, NA, NA);
        s.gives("of NULL", s.pick(s.nothing(), s.number(1)), NA);
        s.gives("all but far ones", s.pick(three, s.vector(-4, -FAR, 0)), 1, 2, 3);
    }

    private static void notAvailableAmongIndexes() {
        Script s = new Script(CHECK, "an NA among such that are all at least 0: NA for it");
        int three = upTo(s, 3);
        s.gives("alone", s.pick(three, s.na()), NA);
        s.gives("with zeros", s.pick(three, s.vector(0, NA, 0)), NA);
        s.gives("among others", s.pick(three, s.vector(3, NA, 1, NA)), 3, NA, 1, NA);
        s.gives("of NULL", s.pick(s.nothing(), s.na()), NA);
        s.fails("among such below 0", 8, s.pick(three, s.vector(NA, -1)));
        s.fails("among such at most 0", 8, s.pick(three, s.vector(-1, 0, NA)));
    }

    private static void indexesOfBothSigns() {
        Script s = new Script(CHECK, "any others: FAILURE 8");
        int three = upTo(s, 3);
        for (int[] wrong : new int[][] {{1, -1}, {-1, 1}, {0, -3, 3}, {FAR, -FAR}, {1, NA, -1}}) {
            int indexes = s.vector(wrong);
            s.fails("picked", 8, s.pick(three, indexes));
            s.fails("picked from NULL", 8, s.pick(s.nothing(), indexes));
            s.fails("replaced", 8, s.replace(0, indexes, three));
            s.hasNothing("replaced", 0);
        }
    }

    private static void replaceByNotAvailableIndex() {
        Script s = new Script(CHECK, "For 13: NA as an index is FAILURE 8");
        int seven = s.number(7);
        s.quietly(s.set(0, upTo(s, 2)));
        for (int[] wrong : new int[][] {{NA}, {NA, 1}, {1, NA}, {0, NA}, {NA, 17}}) {
            int indexes = s.vector(wrong);
            s.fails("by a number", 8, s.replace(0, indexes, seven));
            s.fails("by NULL", 8, s.replace(0, indexes, s.nothing()));
            s.has("as before", 0, 1, 2);
        }
    }

    private static void replaceBetweenIsNotAvailable() {
        Script s = new Script(CHECK, "beyond the end the vector grows, by NA between");
        s.gives("the fourth of nothing", s.replace(0, s.number(4), s.number(9)), 9);
        s.has("the fourth of nothing", 0, NA, NA, NA, 9);
        s.gives("right behind", s.replace(0, s.number(5), s.number(8)), 8);
        s.has("right behind", 0, NA, NA, NA, 9, 8);
        s.gives("two, the farther first", s.replace(0, s.vector(8, 7), s.vector(1, 2)), 1, 2);
        s.has("two, the farther first", 0, NA, NA, NA, 9, 8, NA, 2, 1);
        s.gives("one inside, one beyond", s.replace(0, s.vector(1, 10), s.number(5)), 5);
        s.has("one inside, one beyond", 0, 5, NA, NA, 9, 8, NA, 2, 1, NA, 5);
        s.fails("one inside, one too far", 1, s.replace(0, s.vector(1, 17), s.number(6)));
        s.has("nothing of it", 0, 5, NA, NA, 9, 8, NA, 2, 1, NA, 5);
    }

    private static void replaceBeginsAnew() {
        Script s = new Script(CHECK, "c is begun anew as often as needed");
        int five = upTo(s, 5);
        s.gives("two for five", s.replace(0, five, s.vector(7, 8)), 7, 8);
        s.has("two for five", 0, 7, 8, 7, 8, 7);
        s.gives("five for two", s.replace(0, s.vector(2, 1), five), 1, 2, 3, 4, 5);
        s.has("five for two", 0, 2, 1, 7, 8, 7);
        s.gives("five for all but three", s.replace(0, s.vector(-1, -3, -5), five), 1, 2, 3, 4, 5);
        s.has("five for all but three", 0, 2, 1, 7, 2, 7);
        s.gives("zeros take none of it", s.replace(0, s.vector(0, 1, 0, 0, 2), s.vector(3, 4)), 3, 4);
        s.has("zeros take none of it", 0, 3, 4, 7, 2, 7);
        s.gives("one place twice", s.replace(0, s.vector(1, 1, 1), s.vector(5, 6)), 5, 6);
        s.has("one place twice", 0, 5, 4, 7, 2, 7);
    }

    private static void replaceWithoutElements() {
        Script s = new Script(CHECK, "if no element is meant, nothing is changed, and c may be NULL");
        int nothing = s.nothing();
        s.quietly(s.set(0, upTo(s, 2)));
        for (int none : new int[] {nothing, s.number(0), s.vector(0, 0), s.vector(-2, -1), s.vector(-1, 0, -2, -17)}) {
            s.gives("by NULL", s.replace(0, none, nothing));
            s.gives("by numbers", s.replace(0, none, s.vector(8, 9)), 8, 9);
            s.has("as before", 0, 1, 2);
            s.gives("in nothing", s.replace(1, none, s.number(3)), 3);
            s.hasNothing("still", 1);
        }
        int inCall = s.then(s.replace(0, nothing, nothing), s.setAround(0, s.number(5)), s.get(0));
        s.gives("a call gets none of its own", s.call(s.function(inCall, 0, 0)), 5);
    }

    private static void replaceByNull() {
        Script s = new Script(CHECK, "else NULL for c is FAILURE 5");
        int nothing = s.nothing();
        s.quietly(s.set(0, upTo(s, 2)));
        for (int some : new int[] {s.number(1), s.number(3), s.vector(0, 2), s.number(-1), s.number(-3), s.number(17)}) {
            s.fails("by NULL", 5, s.replace(0, some, nothing));
            s.has("as before", 0, 1, 2);
        }
        s.fails("in nothing", 5, s.replace(1, s.number(1), nothing));
        s.hasNothing("still", 1);
        s.fails("after a wrong index", 8, s.replace(1, s.vector(1, -1), nothing));
    }

    private static void replaceWhatIsNotLookedUp() {
        Script s = new Script(CHECK, "A variable that is not looked up counts as NULL there");
        s.gives("the first", s.replace(0, s.number(1), s.number(6)), 6);
        s.has("the first", 0, 6);
        s.gives("the second", s.replace(1, s.number(2), s.number(6)), 6);
        s.has("the second", 1, NA, 6);
        s.gives("all but some", s.replace(2, s.number(-1), s.number(6)), 6);
        s.hasNothing("all but some", 2);
        s.fails("too far", 1, s.replace(3, s.number(17), s.number(6)));
        s.hasNothing("too far", 3);
        int parameter = s.then(s.replace(4, s.number(2), s.number(6)), s.get(4));
        s.gives("a parameter without an argument", s.call(s.function(parameter, 1, 4)), NA, 6);
        s.hasNothing("not in the global one", 4);
        s.gives("a parameter that is looked up outside", s.then(s.set(4, s.vector(1, 2, 3)),
                s.call(s.function(parameter, 1, 4))), 1, 6, 3);
        s.has("outside as before", 4, 1, 2, 3);
    }

    private static void replaceMustBeVectors() {
        Script s = new Script(CHECK, "13 b and c are evaluated and must be vectors");
        int one = s.number(1);
        int function = s.function(one, 0, 0);
        s.fails("index", 3, s.replace(0, function, s.set(1, one)));
        s.has("c was evaluated", 1, 1);
        s.fails("elements", 3, s.replace(0, one, function));
        s.fails("elements, no element meant", 3, s.replace(0, s.nothing(), function));
        s.fails("elements, a wrong index", 3, s.replace(0, s.vector(1, -1), function));
        s.hasNothing("nothing replaced", 0);
        s.quietly(s.set(2, function));
        s.fails("the variable", 3, s.replace(2, one, one));
        s.fails("the variable, no element meant", 3, s.replace(2, s.nothing(), one));
        s.fails("the variable, a wrong index", 3, s.replace(2, s.na(), one));
        CHECK.answers("the function stays", -1, () -> s.language.variable(2));
        int failing = s.get(8);
        s.fails("index, before a failing argument", 3, s.call(s.function(s.replace(3, function, one), 1, 3), failing));
        s.fails("elements, before it", 3, s.call(s.function(s.replace(3, one, function), 1, 3), failing));
    }

    private static void replaceLooksUpLast() {
        Script s = new Script(CHECK, "13 then a is looked up");
        int one = s.number(1);
        int replacing = s.replace(0, s.then(s.set(0, s.vector(1, 2)), one), s.then(s.set(0, s.vector(3, 4, 5)), one));
        s.gives("after b and c", replacing, 1);
        s.has("after b and c", 0, 1, 4, 5);
        s.quietly(s.set(0, s.function(one, 0, 0)));
        s.gives("no function any more", replacing, 1);
        s.has("no function any more", 0, 1, 4, 5);
        s.fails("a failure in b before c", 4, s.replace(0, s.get(8), s.set(1, one)));
        s.hasNothing("c was not evaluated", 1);
        s.fails("a failure in c", 4, s.replace(0, one, s.get(8)));
        int wanting = s.function(s.replace(6, one, one), 1, 6);
        s.fails("a failing argument after b and c", 4, s.call(wanting, s.get(8)));
        s.gives("an argument that ends the run", s.call(wanting, s.end(s.number(77))), 77);
        s.counts("without a value", 3, 0);
        s.gives("an argument", s.call(s.function(s.then(s.replace(6, one, s.number(5)), s.get(6)), 1, 6), s.vector(8, 9)),
                5, 9);
        s.counts("evaluated once", 3, 1);
    }
}
