import java.io.IOException;
import java.nio.file.Files;
import java.nio.file.Path;
import java.util.Arrays;
import java.util.HashMap;
import java.util.Map;
import java.util.regex.Matcher;
import java.util.regex.Pattern;

/** The calls shown in README.md: each must answer, or throw, what the comment behind it begins with. */
public final class ReadmeTest {
    private static final Check CHECK = new Check("ReadmeTest");
    private static final Pattern BLOCK = Pattern.compile("(?s)```java\n(.*?)```");
    private static final String MAKING = "VectorLanguage x = new VectorLanguage();";
    private static final Pattern LINE = Pattern.compile("(?:int (\\w+) = )?x\\.(\\w+)\\((.*?)\\); *// ([-\\w]+): .*");

    private final VectorLanguage language = new VectorLanguage();
    private final Map<String, Integer> names = new HashMap<>();

    public static void main(String[] args) throws IOException {
        String text = Files.readString(Path.of(args.length > 0 ? args[0] : ".", "README.md"));
        int blocks = 0;
        Matcher block = BLOCK.matcher(text);
        while (block.find()) {
            blocks++;
            new ReadmeTest().follow(block.group(1).split("\n"));
        }
        CHECK.due("examples", 2, blocks);
        CHECK.end();
    }

    private void follow(String[] lines) {
        CHECK.due("first line", MAKING, lines[0]);
        for (int k = 1; k < lines.length; k++) {
            Matcher line = LINE.matcher(lines[k]);
            CHECK.due("form of: " + lines[k], true, line.matches());
            if (line.matches()) {
                int[] given = numbers(line.group(3));
                String outcome = Check.outcome(() -> call(line.group(2), given));
                CHECK.due(lines[k], line.group(4), outcome);
                name(line.group(1), outcome);
            }
        }
    }

    private void name(String name, String outcome) {
        if (name != null && outcome.matches("\\d+")) {
            names.put(name, Integer.valueOf(outcome));
        }
    }

    private int[] numbers(String given) {
        return given.isEmpty() ? new int[0] : Arrays.stream(given.split(", ")).mapToInt(this::number).toArray();
    }

    private int number(String word) {
        return names.containsKey(word) ? names.get(word) : Integer.parseInt(word);
    }

    private int call(String method, int[] given) {
        switch (method) {
            case "expression":
                return language.expression(given[0], given[1], given[2], given[3]);
            case "run":
                return language.run(given[0]);
            case "element":
                return language.element(given[0]);
            case "failure":
                return language.failure();
            case "variable":
                return language.variable(given[0]);
            case "value":
                return language.value(given[0], given[1]);
            case "reset":
                return language.reset();
            case "count":
                return language.count(given[0]);
            default:
                throw new AssertionError("no such method: " + method);
        }
    }
}
