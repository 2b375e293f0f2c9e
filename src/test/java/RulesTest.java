import java.io.IOException;
import java.lang.reflect.Field;
import java.lang.reflect.Method;
import java.lang.reflect.Modifier;
import java.nio.charset.StandardCharsets;
import java.nio.file.Files;
import java.nio.file.Path;
import java.util.Arrays;
import java.util.Set;
import java.util.regex.Matcher;
import java.util.regex.Pattern;

/** The rules of LANGUAGE.md that can be seen by reflection or in the program's text. */
public final class RulesTest {
    private static final Check CHECK = new Check("RulesTest");
    private static final Set<String> FACE = Set.of("expression", "run", "element", "failure", "variable", "value", "reset",
            "count");
    private static final Set<String> IMPORTS = Set.of("java.util.Arrays", "java.util.ArrayList", "java.util.List",
            "java.util.Iterator", "java.util.NoSuchElementException");
    private static final Pattern LIBRARY = Pattern.compile("Arrays\\.(copyOf|copyOfRange|fill)|System\\.arraycopy"
            + "|(Math|Integer|Long)\\.(?!\\w*Exact\\b|random\\b)\\w+|List\\.of");
    private static final String[] FORBIDDEN = {"::", "finally", "synchronized", "assert", "Object", "hashCode", "getMessage",
        "native", "volatile", "transient", "package", "Thread", "Random", "nanoTime", "currentTimeMillis"};
    private static final int MOST_LINES = 60;

    public static void main(String[] args) throws IOException {
        Path program = Path.of(args.length > 0 ? args[0] : ".", "src", "main", "java", "VectorLanguage.java");
        String text = Files.readString(program, StandardCharsets.ISO_8859_1);
        members();
        classesInside();
        library(withoutComments(text));
        forbiddenWords(withoutComments(text));
        lengthOfMethods(text);
        CHECK.end();
    }

    private static void members() {
        for (Field field : VectorLanguage.class.getDeclaredFields()) {
            int modifiers = field.getModifiers();
            boolean isFace = field.getName().equals("NA");
            CHECK.due(field.getName() + " is private", !isFace, Modifier.isPrivate(modifiers));
            CHECK.due(field.getName() + " changes only in objects", true,
                    Modifier.isFinal(modifiers) || !Modifier.isStatic(modifiers));
        }
    }

    private static void classesInside() {
        Class<?>[] inside = VectorLanguage.class.getDeclaredClasses();
        CHECK.due("at most twelve classes", true, inside.length + 1 <= 12);
        methodsOf(VectorLanguage.class);
        for (Class<?> type : inside) {
            CHECK.due(type + " is static", true, Modifier.isStatic(type.getModifiers()));
            CHECK.due(type + " is not shown", false, (type.getModifiers() & (Modifier.PUBLIC | Modifier.PROTECTED)) != 0);
            long fields = Arrays.stream(type.getDeclaredFields()).filter(f -> !Modifier.isStatic(f.getModifiers())).count();
            CHECK.due(type + " has few fields", true, fields <= 20);
            methodsOf(type);
        }
    }

    private static void methodsOf(Class<?> type) {
        for (Method method : type.getDeclaredMethods()) {
            String name = method.getName();
            CHECK.due(type + " " + name + " has few parameters", true, method.getParameterCount() <= 7);
            CHECK.due(type + " " + name + " is private and has a name of the face", false,
                    Modifier.isPrivate(method.getModifiers()) && FACE.contains(name));
        }
    }

    private static String withoutComments(String text) {
        return text.replaceAll("(?s)/\\*.*?\\*/", "").replaceAll("//[^\n]*", "").replaceAll("\"[^\"\n]*\"", "\"\"");
    }

    private static void library(String code) {
        Matcher line = Pattern.compile("(?m)^import (.*);").matcher(code);
        while (line.find()) {
            CHECK.due("import of " + line.group(1), true, IMPORTS.contains(line.group(1)));
        }
        Matcher call = Pattern.compile("(?<![\\w.])(Arrays|System|Math|Integer|Long|String|List)\\.\\w+").matcher(code);
        while (call.find()) {
            CHECK.due(call.group() + " is in the library", true, LIBRARY.matcher(call.group()).matches());
        }
    }

    private static void forbiddenWords(String code) {
        for (String word : FORBIDDEN) {
            CHECK.due("no " + word, false, Pattern.compile("(?<!\\w)" + Pattern.quote(word) + "(?!\\w)").matcher(code)
                    .find());
        }
        CHECK.due("no lambda", false, Pattern.compile("(?m)^(?!\\s*(case|default)\\b).*->").matcher(code).find());
        CHECK.due("no arrays of arrays of objects", false, Pattern.compile("[A-Z]\\w*\\[[^\\]]*\\]\\[").matcher(code).find());
        CHECK.due("no static state", false, Pattern.compile("(?m)^\\s*(private )?static (?!final|class|abstract)[\\w\\[\\]]+ \\w+( =.*)?;")
                .matcher(code).find());
        CHECK.due("no static block", false, Pattern.compile("(?m)^\\s*static \\{").matcher(code).find());
    }

    /** A method begins at a line that ends with a brace behind a parenthesis, and ends at the next lone brace under it. */
    private static void lengthOfMethods(String text) {
        String[] lines = text.split("\n");
        for (int k = 0; k < lines.length; k++) {
            Matcher head = Pattern.compile("^( {4}| {8})\\w[^;=]*\\) (throws .*)?\\{$").matcher(lines[k]);
            if (!head.matches()) {
                continue;
            }
            int end = k;
            while (end < lines.length && !lines[end].equals(head.group(1) + "}")) {
                end++;
            }
            CHECK.due("at most " + MOST_LINES + " lines: " + lines[k].trim(), true, end - k + 1 <= MOST_LINES);
        }
    }
}
