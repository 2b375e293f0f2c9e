/** The terms: kinds 10 to 13, and indexes. */
public final class VectorsTest {
    private static final Check CHECK = new Check("VectorsTest");
    private static final int NA = Script.NA;
    private static final int FAR = 1000000000;

    public static void main(String[] args) {
        join();
        range();
        pick();
        pickWrongly();
        indexesAfterOthers();
        replaceInside();
        replaceBeyond();
        replaceNothing();
        replaceWrongly();
        replaceOrder();
        replaceInCalls();
        CHECK.end();
    }

    private static void join() {
        Script s = new Script(CHECK, "join");
        int nothing = s.nothing();
        int eight = s.range(s.number(1), s.number(8));
        s.gives("two", s.join(s.vector(1, NA), s.vector(3, 4)), 1, NA, 3, 4);
        s.gives("NULL first", s.join(nothing, s.vector(3)), 3);
        s.gives("NULL second", s.join(s.vector(3), nothing), 3);
        s.gives("NULLs", s.join(nothing, nothing));
        int sixteen = s.join(eight, eight);
        s.gives("sixteen", sixteen, 1, 2, 3, 4, 5, 6, 7, 8, 1, 2, 3, 4, 5, 6, 7, 8);
        s.fails("seventeen", 1, s.join(sixteen, s.na()));
        s.fails("thirty-two", 1, s.join(sixteen, sixteen));
        s.fails("function", 3, s.join(s.function(eight, 0, 0), nothing));
        s.fails("function behind", 3, s.join(sixteen, s.function(eight, 0, 0)));
    }

    private static void range() {
        Script s = new Script(CHECK, "range");
        int one = s.number(1);
        int function = s.function(one, 0, 0);
        s.gives("up", s.range(s.number(-1), s.number(2)), -1, 0, 1, 2);
        s.gives("down", s.range(s.number(2), s.number(-1)), 2, 1, 0, -1);
        s.gives("one", s.range(one, one), 1);
        s.gives("first elements", s.range(s.vector(4, NA), s.vector(6, 1)), 4, 5, 6);
        s.gives("sixteen down", s.length(s.range(s.number(15), s.number(0))), 16);
        s.fails("seventeen", 1, s.range(s.number(0), s.number(16)));
        s.fails("seventeen down", 1, s.range(s.number(16), s.number(0)));
        s.fails("far", 1, s.range(s.number(-FAR), s.number(FAR)));
        s.fails("far down", 1, s.range(s.number(FAR), s.number(-FAR)));
        s.gives("at the edge", s.range(s.number(FAR - 1), s.number(FAR)), FAR - 1, FAR);
        s.fails("from NULL", 5, s.range(s.nothing(), one));
        s.fails("to NULL", 5, s.range(one, s.nothing()));
        s.fails("from NA", 5, s.range(s.na(), one));
        s.fails("to NA", 5, s.range(one, s.vector(NA, 1)));
        s.fails("function", 3, s.range(function, one));
        s.fails("function before NULL", 3, s.range(s.nothing(), function));
    }

    private static void picks(String what, int[] indexes, int... want) {
        Script s = new Script(CHECK, "pick");
        s.gives(what, s.pick(s.vector(10, 20, 30), s.vector(indexes)), want);
    }

    private static void pick() {
        picks("NULL", new int[] {});
        picks("one", new int[] {2}, 20);
        picks("several", new int[] {3, 1, 1}, 30, 10, 10);
        picks("zeros left out", new int[] {0, 2, 0}, 20);
        picks("zeros alone", new int[] {0, 0});
        picks("beyond", new int[] {3, 4, FAR}, 30, NA, NA);
        picks("NA", new int[] {NA}, NA);
        picks("NA among", new int[] {1, NA, 0, 3}, 10, NA, 30);
        picks("NA and 0", new int[] {0, NA}, NA);
        picks("all but one", new int[] {-2}, 10, 30);
        picks("all but, twice", new int[] {-3, -3, 0}, 10, 20);
        picks("all but beyond", new int[] {-4, -FAR}, 10, 20, 30);
        picks("all but all", new int[] {-1, -2, -3});
        Script s = new Script(CHECK, "pick of NULL");
        int nothing = s.nothing();
        s.gives("beyond", s.pick(nothing, s.number(1)), NA);
        s.gives("but", s.pick(nothing, s.number(-1)));
        s.gives("NULL", s.pick(nothing, nothing));
    }

    private static void pickWrongly() {
        Script s = new Script(CHECK, "pick wrongly");
        int three = s.vector(10, 20, 30);
        int function = s.function(three, 0, 0);
        s.fails("both signs", 8, s.pick(three, s.vector(1, -1)));
        s.fails("both signs, other order", 8, s.pick(three, s.vector(-1, 0, 1)));
        s.fails("NA among but", 8, s.pick(three, s.vector(-1, NA)));
        s.fails("NA before but", 8, s.pick(three, s.vector(NA, 0, -1)));
        s.fails("all three", 8, s.pick(three, s.vector(NA, 1, -1)));
        s.fails("of NULL", 8, s.pick(s.nothing(), s.vector(1, -1)));
        s.fails("of a function", 3, s.pick(function, s.number(1)));
        s.fails("by a function", 3, s.pick(three, function));
    }

    private static void indexesAfterOthers() {
        Script s = new Script(CHECK, "one after the other");
        int three = s.vector(10, 20, 30);
        int one = s.number(1);
        s.gives("but", s.pick(three, s.number(-1)), 20, 30);
        s.gives("one", s.pick(three, one), 10);
        s.gives("NA", s.pick(three, s.na()), NA);
        s.gives("but again", s.pick(three, s.number(-2)), 10, 30);
        s.gives("far", s.pick(three, s.vector(0, 5, 9, 12)), NA, NA, NA);
        s.gives("one again", s.then(s.set(0, three), s.replace(0, one, one)), 1);
        s.has("one again", 0, 1, 20, 30);
        int sixteen = s.range(one, s.number(16));
        s.gives("sixteen", s.pick(sixteen, s.range(s.number(16), one)),
                16, 15, 14, 13, 12, 11, 10, 9, 8, 7, 6, 5, 4, 3, 2, 1);
        s.gives("sixteen replaced", s.then(s.replace(0, sixteen, sixteen), s.sum(s.get(0))), 136);
        s.gives("all sixteen but", s.pick(sixteen, s.number(-17)), 1, 2, 3, 4, 5, 6, 7, 8, 9, 10, 11, 12, 13, 14, 15, 16);
    }

    private static void replaces(String what, int[] indexes, int[] elements, int... want) {
        Script s = new Script(CHECK, "replace");
        s.quietly(s.set(4, s.vector(10, 20, 30)));
        s.gives(what, s.replace(4, s.vector(indexes), s.vector(elements)), elements);
        s.has(what, 4, want);
    }

    private static void replaceInside() {
        replaces("one", new int[] {2}, new int[] {7}, 10, 7, 30);
        replaces("by NA", new int[] {1}, new int[] {NA}, NA, 20, 30);
        replaces("two", new int[] {3, 1}, new int[] {7, 8}, 8, 20, 7);
        replaces("begun anew", new int[] {1, 2, 3}, new int[] {7, 8}, 7, 8, 7);
        replaces("more than needed", new int[] {2}, new int[] {7, 8, 9}, 10, 7, 30);
        replaces("the last one stays", new int[] {1, 1}, new int[] {7, 8}, 8, 20, 30);
        replaces("zeros do not count", new int[] {0, 3, 0, 2}, new int[] {7, 8}, 10, 8, 7);
        replaces("all but one", new int[] {-2}, new int[] {7, 8}, 7, 20, 8);
        replaces("all but beyond", new int[] {-9, 0}, new int[] {7}, 7, 7, 7);
    }

    private static void replaceBeyond() {
        replaces("the next", new int[] {4}, new int[] {7}, 10, 20, 30, 7);
        replaces("with NA between", new int[] {6}, new int[] {7}, 10, 20, 30, NA, NA, 7);
        replaces("downwards", new int[] {6, 5}, new int[] {7, 8}, 10, 20, 30, NA, 8, 7);
        replaces("the last possible", new int[] {16}, new int[] {7},
                10, 20, 30, NA, NA, NA, NA, NA, NA, NA, NA, NA, NA, NA, NA, 7);
        Script s = new Script(CHECK, "replace in nothing");
        s.gives("not looked up", s.replace(0, s.number(2), s.number(5)), 5);
        s.has("not looked up", 0, NA, 5);
        s.quietly(s.set(1, s.nothing()));
        s.gives("NULL", s.replace(1, s.number(1), s.number(5)), 5);
        s.has("NULL", 1, 5);
    }

    private static void replaceNothing() {
        replaces("NULL", new int[] {}, new int[] {7}, 10, 20, 30);
        replaces("zeros", new int[] {0, 0}, new int[] {7, 8}, 10, 20, 30);
        replaces("NULL by NULL", new int[] {}, new int[] {}, 10, 20, 30);
        replaces("all but all by NULL", new int[] {-1, -2, -3}, new int[] {}, 10, 20, 30);
        Script s = new Script(CHECK, "replace nothing in nothing");
        s.gives("all but", s.replace(0, s.number(-1), s.number(5)), 5);
        s.hasNothing("still", 0);
        s.gives("NULL", s.replace(0, s.nothing(), s.nothing()));
        s.hasNothing("still", 0);
    }

    private static void replaceFails(String what, int failure, int[] indexes, int[] elements) {
        Script s = new Script(CHECK, "replace wrongly");
        s.quietly(s.set(4, s.vector(10, 20, 30)));
        s.fails(what, failure, s.replace(4, s.vector(indexes), s.vector(elements)));
        s.has(what, 4, 10, 20, 30);
    }

    private static void replaceWrongly() {
        replaceFails("NA", 8, new int[] {NA}, new int[] {1});
        replaceFails("NA among", 8, new int[] {1, NA}, new int[] {1});
        replaceFails("NA and 0", 8, new int[] {0, NA}, new int[] {});
        replaceFails("NA among but", 8, new int[] {-1, NA}, new int[] {1});
        replaceFails("both signs", 8, new int[] {-1, 1}, new int[] {1});
        replaceFails("both signs by NULL", 8, new int[] {1, -1}, new int[] {});
        replaceFails("by NULL", 5, new int[] {1}, new int[] {});
        replaceFails("but, by NULL", 5, new int[] {-1}, new int[] {});
        replaceFails("too far", 1, new int[] {17}, new int[] {1});
        replaceFails("much too far", 1, new int[] {1, FAR}, new int[] {1});
    }

    private static void replaceOrder() {
        Script s = new Script(CHECK, "order of replacing");
        int one = s.number(1);
        int function = s.function(one, 0, 0);
        s.fails("function as index", 3, s.replace(0, function, s.set(1, one)));
        s.has("the rest was evaluated", 1, 1);
        s.fails("function as elements", 3, s.replace(0, one, function));
        s.hasNothing("not assigned", 0);
        s.gives("b before c, and both before a", s.replace(2, s.set(2, s.vector(1, 2)), s.set(2, s.vector(3, 4, 5))),
                3, 4, 5);
        s.has("replaced in what c left", 2, 3, 4, 5);
        s.quietly(s.set(3, function));
        s.fails("in a function", 3, s.replace(3, one, one));
        s.fails("failing index", 4, s.replace(3, s.get(8), one));
        s.fails("failing elements", 4, s.replace(3, one, s.get(8)));
    }

    private static void replaceInCalls() {
        Script s = new Script(CHECK, "replace in a call");
        int one = s.number(1);
        int nine = s.number(9);
        s.quietly(s.set(0, s.vector(1, 2)));
        int body = s.then(s.replace(0, one, nine), s.get(0));
        s.gives("a copy of the outer one", s.call(s.function(body, 0, 0)), 9, 2);
        s.has("the outer one", 0, 1, 2);
        s.gives("an argument", s.call(s.function(body, 1, 0), s.vector(5, 6)), 9, 6);
        s.counts("evaluated", 3, 1);
        int replacing = s.replace(0, one, nine);
        s.fails("a failing argument", 4, s.call(s.function(replacing, 1, 0), s.get(8)));
        s.fails("a failing argument, no element meant", 4,
                s.call(s.function(s.replace(0, s.nothing(), nine), 1, 0), s.get(8)));
        int function = s.function(one, 0, 0);
        s.fails("a function as index before it", 3, s.call(s.function(s.replace(0, function, one), 1, 0), s.get(8)));
        s.fails("a function as elements before it", 3, s.call(s.function(s.replace(0, one, function), 1, 0), s.get(8)));
        int unchanged = s.then(s.replace(0, s.nothing(), nine), s.setAround(0, nine), s.get(0));
        s.gives("no element meant: no copy", s.call(s.function(unchanged, 0, 0)), 9);
        s.gives("an argument that is a function", s.attempt(s.call(s.function(body, 1, 0), s.function(one, 0, 0)),
                s.get(9)), 3);
    }
}
