import java.io.IOException;
import java.nio.file.Files;
import java.nio.file.Path;
import java.util.HashSet;
import java.util.List;
import java.util.Set;
import java.util.regex.Matcher;
import java.util.regex.Pattern;

/**
 * Those rules of ../shared/LANGUAGE.md that can be seen by looking through the source's text, from
 * the folder of the project. It is no proof that the other rules hold.
 */
public final class LanguageTest {
    private static final Checks CHECKS = new Checks();
    private static final Path SOURCE = Path.of("src", "main", "java", "MorphWords.java");
    private static final List<String> RULED_OUT = List.of(
        "throw", "throws", "try", "catch", "finally", "synchronized", "assert", "import", "package", "protected",
        "transient", "volatile", "native", "strictfp", "Object", "Thread", "Random", "Exception", "System(?!\\.arraycopy\\()");
    private static final Pattern METHOD = Pattern.compile(
        "^ +(public |private |static |final )*(int|boolean|void|long|char|Letters) (\\w+)\\(([^)]*)\\) \\{$",
        Pattern.MULTILINE);

    private static String source = "";

    private LanguageTest() {
    }

    public static void main(String[] args) throws IOException {
        source = Files.readString(SOURCE)
            .replaceAll("(?s)/\\*.*?\\*/", "")
            .replaceAll("//[^\n]*", "");
        CHECKS.test("rules 4, 6, 13: words that are ruled out", LanguageTest::words);
        CHECKS.test("rules 1, 8, 11: methods", LanguageTest::methods);
        CHECKS.test("rule 5: static fields are final", LanguageTest::staticFields);
        CHECKS.test("rule 11: classes and fields", LanguageTest::sizes);
        CHECKS.end();
    }

    private static int times(String pattern) {
        return (int) Pattern.compile(pattern, Pattern.MULTILINE).matcher(source).results().count();
    }

    private static void words() {
        for (String word : RULED_OUT) {
            CHECKS.due("times of " + word, times("\\b" + word + "\\b"), 0);
        }
        CHECKS.due("lambdas and arrows", times("->"), 0);
        CHECKS.due("method references", times("::"), 0);
        CHECKS.due("functions that throw", times("Exact\\("), 0);
        CHECKS.due("own equals, hashCode and toString", times("\\b(equals|hashCode|toString)\\("), 0);
        CHECKS.due("texts joined by +", times("\" *\\+|\\+ *\""), 0);
    }

    private static void methods() {
        Set<String> open = new HashSet<>();
        Set<String> hidden = new HashSet<>();
        Matcher matcher = METHOD.matcher(source);
        while (matcher.find()) {
            String head = matcher.group();
            String name = matcher.group(3);
            (head.contains("public ") ? open : hidden).add(name);
            CHECKS.due("parameters of " + name + " are few", matcher.group(4).split(",").length <= 7 ? 1 : 0, 1);
            String indent = head.substring(0, head.length() - head.stripLeading().length());
            int end = source.indexOf("\n" + indent + "}", matcher.end());
            long lines = source.substring(matcher.start(), end).lines().count();
            CHECKS.due("lines of " + name + " are few", lines <= 60 ? 1 : 0, 1);
            String body = source.substring(matcher.end(), end);
            boolean callsItself = Pattern.compile("(?<![.\\w])" + name + "\\(").matcher(body).find();
            CHECKS.due(name + " does not call itself", callsItself ? 1 : 0, 0);
        }
        CHECKS.due("public methods", open.size(), 29);
        hidden.retainAll(open);
        CHECKS.due("hidden methods with the names of public ones", hidden.toString(), "[]");
    }

    private static void staticFields() {
        CHECKS.due("static fields that are not final", times("^ +(public |private )?static (?!final )[^(\n]*(;|=)"), 0);
        CHECKS.due("static blocks", times("^ *static *\\{"), 0);
    }

    private static void sizes() {
        int classes = times("\\bclass \\w+");
        CHECKS.due("classes are at most 12, but " + classes, classes <= 12 ? 1 : 0, 1);
        CHECKS.due("classes inside that are not static", times("^ +private (?!static )[\\w ]*class"), 0);
        int fields = times("^    private (final )?\\w+(\\[\\])? \\w+( =.*)?;$");
        CHECKS.due("fields are at most 20, but " + fields, fields <= 20 ? 1 : 0, 1);
        CHECKS.due("fields were found", fields > 5 ? 1 : 0, 1);
        CHECKS.due("characters that are not plain", times("[^\\x00-\\x7f]"), 0);
    }
}
