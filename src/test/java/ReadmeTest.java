import java.io.IOException;
import java.lang.reflect.Method;
import java.nio.file.Files;
import java.nio.file.Path;
import java.util.ArrayList;
import java.util.List;
import java.util.Map;
import java.util.TreeMap;
import java.util.TreeSet;
import java.util.regex.Matcher;
import java.util.regex.Pattern;
import java.util.stream.Stream;

/** What README.md says, read from the folder of the project: its examples and its table of the tests. */
public final class ReadmeTest {
    private static final Checks CHECKS = new Checks();
    private static final Pattern EXAMPLE = Pattern.compile("### ([^\n]+)\n\n```java\n(.*?)```", Pattern.DOTALL);
    private static final Pattern TEXT = Pattern.compile("type\\(words, \"(.*)\"\\);");
    private static final Pattern CALL = Pattern.compile("words\\.(\\w+)\\((.*)\\); +// (-?\\w+)(: .+)?");
    private static final Map<String, Integer> CONSTANTS = Map.of(
        "UNKNOWN", Answers.UNKNOWN, "BAD_VALUE", Answers.BAD_VALUE, "FULL", Answers.FULL,
        "NOT_POSSIBLE", Answers.NOT_POSSIBLE, "NONE", Answers.NONE);
    private static final Map<String, Method> FACE = new TreeMap<>();

    private ReadmeTest() {
    }

    public static void main(String[] args) throws IOException {
        for (Method method : MorphWords.class.getMethods()) {
            if (method.getDeclaringClass() == MorphWords.class) {
                FACE.put(method.getName(), method);
            }
        }
        String page = Files.readString(Path.of("README.md"));
        TreeSet<String> used = new TreeSet<>();
        EXAMPLE.matcher(page).results().forEach(example -> CHECKS.test("README.md: the answers of the example \""
            + example.group(1) + "\"", () -> follow(example.group(2).split("\n"), used)));
        CHECKS.test("README.md: its examples use every call",
            () -> CHECKS.due("the calls", used.toString(), FACE.keySet().toString()));
        CHECKS.test("README.md: its table names the constants", () -> constants(page));
        List<String> files = testFiles();
        CHECKS.test("README.md: it names every file of the tests", () -> {
            for (String file : files) {
                CHECKS.due(file + " stands in it", page.contains("`" + file + "`") ? 1 : 0, 1);
            }
        });
        CHECKS.end();
    }

    private static List<String> testFiles() throws IOException {
        try (Stream<Path> files = Files.list(Path.of("src", "test", "java"))) {
            return files.map(file -> file.getFileName().toString().replace(".java", "")).sorted().toList();
        }
    }

    private static void constants(String page) {
        CONSTANTS.forEach((name, value) -> {
            String row = "| `" + name + "`, " + value + " | ";
            CHECKS.due(row + "stands in it", page.contains(row) ? 1 : 0, 1);
        });
    }

    /** Makes the calls of an example, line by line, and compares what they answer with what it says. */
    private static void follow(String[] lines, TreeSet<String> used) {
        MorphWords words = new MorphWords();
        CHECKS.due("its first line", lines[0], "MorphWords words = new MorphWords();");
        for (int i = 1; i < lines.length; i++) {
            Matcher text = TEXT.matcher(lines[i]);
            Matcher call = CALL.matcher(lines[i]);
            if (text.matches()) {
                Words.type(words, text.group(1));
            } else if (call.matches() && FACE.containsKey(call.group(1))) {
                String said = call.group(3);
                int due = CONSTANTS.containsKey(said) ? CONSTANTS.get(said) : Integer.parseInt(said);
                CHECKS.due(lines[i], answer(words, FACE.get(call.group(1)), call.group(2)), due);
                used.add(call.group(1));
            } else {
                CHECKS.due("a line that can be followed", lines[i], "a call with its answer, or a text");
            }
        }
    }

    private static int answer(MorphWords words, Method method, String told) {
        List<Object> arguments = new ArrayList<>();
        for (String argument : told.isEmpty() ? new String[0] : told.split(", ")) {
            Class<?> kind = method.getParameterTypes()[arguments.size()];
            if (kind == boolean.class) {
                arguments.add(Boolean.valueOf(argument));
            } else if (kind == char.class) {
                arguments.add(argument.charAt(1));
            } else {
                arguments.add(Integer.valueOf(argument));
            }
        }
        try {
            return (int) method.invoke(words, arguments.toArray());
        } catch (ReflectiveOperationException thrown) {
            throw new IllegalStateException(method.getName() + "(" + told + ")", thrown);
        }
    }
}
