import java.util.ArrayList;
import java.util.List;
import java.util.Map;
import java.util.Random;
import java.util.TreeMap;

/** Random programs on VectorLanguage and on the Model: every call must end alike. The seeds are fixed. */
public final class ModelTest {
    private static final Check CHECK = new Check("ModelTest");
    private static final int ROUNDS = 6000;
    /** An object is promised for so many calls, and all of them are made. */
    private static final int CALLS = 512;
    private static final int[] NUMBERS = {0, 0, 1, 1, 1, 2, 2, 3, 4, 5, 7, 9, 15, 16, 17, -1, -1, -2, -3, -16, 99, 100,
        1000000000, -1000000000, 1000000001, -1000000001};
    /** The kinds to make, those with much to go wrong more often. */
    private static final int[] KINDS = {0, 0, 0, 1, 2, 3, 3, 3, 3, 4, 4, 4, 5, 5, 6, 6, 7, 8, 9, 10, 10, 10, 11, 11,
        12, 12, 12, 13, 13, 13, 14, 15, 16, 16, 17, 18, 18, 18, 18, 19, 19, 19, 19, 20, 20, 20, 20, 20, 20, 21, 22, 22,
        23, 24, 24, 25};

    /** How many runs ended with each failure. */
    private static final Map<Integer, Integer> ENDS = new TreeMap<>();

    private final Random random;
    private final VectorLanguage language = new VectorLanguage();
    private final Model model = new Model();
    private final List<String> calls = new ArrayList<>();
    private final int variables;
    private int made;

    private ModelTest(int seed) {
        random = new Random(seed);
        variables = 2 + random.nextInt(9);
    }

    public static void main(String[] args) {
        int rounds = args.length > 1 ? Integer.parseInt(args[1]) : ROUNDS;
        for (int seed = 0; seed < rounds && CHECK.allRight(); seed++) {
            ModelTest test = new ModelTest(seed);
            test.prepare();
            while (test.calls.size() < CALLS && CHECK.allRight()) {
                test.step();
            }
            if (!CHECK.allRight()) {
                System.out.println(String.join("\n", test.calls));
            }
        }
        // Each failure must have come about, or else the programs test less than they seem to.
        for (int failure = 0; failure <= 9; failure++) {
            System.out.println("runs that ended with " + failure + ": " + ENDS.getOrDefault(failure, 0));
            CHECK.due("runs that ended with " + failure, true, ENDS.containsKey(failure));
        }
        CHECK.end();
    }

    /** Leaves out the calls of a step that would be more than are promised. */
    private void compare(String call, Check.Call onLanguage, Check.Call onModel) {
        if (calls.size() == CALLS) {
            return;
        }
        String want = Check.outcome(onModel);
        calls.add(call + " " + want);
        CHECK.due(call, want, Check.outcome(onLanguage));
    }

    private void step() {
        int which = random.nextInt(100);
        if (random.nextInt(40) == 0) {
            makeReaderOfArgument();
        } else if (which < (made < 15 ? 80 : 32)) {
            make();
        } else if (which < 70) {
            int expression = random.nextInt(20) == 0 ? random.nextInt(140) - 5 : part();
            run(expression);
            afterRun();
        } else {
            ask(which);
        }
    }

    private void run(int expression) {
        compare("run(" + expression + ")", () -> language.run(expression), () -> model.run(expression));
        ENDS.merge(model.failure(), 1, Integer::sum);
    }

    /** Gives some variables vectors: with none, most programs would fail at the first look-up. */
    private void prepare() {
        for (int variable = 0; variable < variables; variable += 1 + random.nextInt(3)) {
            make(0, random.nextInt(20) - 4, 0, 0);
            make(0, random.nextInt(20) - 4, 0, 0);
            make(10 + random.nextInt(2), made - 2, made - 1, 0);
            make(4, variable, made - 1, 0);
            run(made - 1);
        }
    }

    private void afterRun() {
        compare("failure()", language::failure, model::failure);
        for (int what = 1; what <= 3; what++) {
            int which = what;
            compare("count(" + which + ")", () -> language.count(which), () -> model.count(which));
        }
        for (int k = 0; k < 3; k++) {
            int place = k;
            compare("element(" + place + ")", () -> language.element(place), () -> model.element(place));
        }
    }

    private void ask(int which) {
        int variable = random.nextInt(12) - 1;
        int k = random.nextInt(19) - 1;
        if (which < 78) {
            compare("element(" + k + ")", () -> language.element(k), () -> model.element(k));
        } else if (which < 84) {
            compare("variable(" + variable + ")", () -> language.variable(variable), () -> model.variable(variable));
        } else if (which < 94) {
            compare("value(" + variable + ", " + k + ")", () -> language.value(variable, k),
                    () -> model.value(variable, k));
        } else if (which < 97) {
            compare("count(" + variable + ")", () -> language.count(variable), () -> model.count(variable));
        } else {
            compare("reset()", language::reset, model::reset);
        }
    }

    private void make() {
        int kind = random.nextInt(60) == 0 ? random.nextInt(40) - 5 : KINDS[random.nextInt(KINDS.length)];
        int b = kind == 19 ? random.nextInt(3) : kind == 20 && random.nextInt(4) == 0 ? -1 : part();
        make(kind, first(kind), b, third(kind, b));
    }

    /** A call whose argument can be read by a function that is known outside: chance alone makes few of these. */
    private void makeReaderOfArgument() {
        int parameter = random.nextInt(variables);
        int known = random.nextInt(variables);
        make(3, parameter, 0, 0);
        make(19, made - 1, 0, 0);
        make(5, known, made - 1, 0);
        make(18, made - 1, random.nextBoolean() ? made - 3 : part(), 0);
        make(19, made - 1, 1, parameter);
        make(3, known, 0, 0);
        make(20, made - 1, -1, -1);
        make(random.nextInt(2) == 0 ? 18 : 24, made - 1, part(), 0);
        make(20, made - 4, random.nextBoolean() ? made - 1 : part(), -1);
    }

    private void make(int kind, int a, int b, int c) {
        compare("expression(" + kind + ", " + a + ", " + b + ", " + c + ")",
                () -> language.expression(kind, a, b, c), () -> model.expression(kind, a, b, c));
        made = model.count(0);
    }

    private int first(int kind) {
        if (kind == 0) {
            return NUMBERS[random.nextInt(NUMBERS.length)];
        }
        return kind == 3 || kind == 4 || kind == 5 || kind == 13 || kind == 21 ? variable() : part();
    }

    private int third(int kind, int b) {
        if (kind >= 6 && kind <= 8) {
            return random.nextInt(kind == 6 ? 5 : kind == 7 ? 3 : 2);
        }
        if (kind == 19) {
            return variable();
        }
        return kind == 16 && random.nextInt(3) == 0 || kind == 20 && (b < 0 || random.nextInt(2) == 0) ? -1 : part();
    }

    private int variable() {
        return random.nextInt(40) == 0 ? random.nextInt(14) - 2 : random.nextInt(variables);
    }

    /** An expression made, a late one more often; now and then one that was not made. */
    private int part() {
        if (made == 0 || random.nextInt(100) == 0) {
            return random.nextInt(130) - 3;
        }
        return random.nextInt(3) == 0 ? random.nextInt(made) : made - 1 - random.nextInt(Math.min(made, 6));
    }
}
