import java.util.function.Supplier;
import java.util.function.ToIntFunction;

/** Counts the tests of one test program and tells each of them in a line of its own. */
final class Checks {
    private int failedTests = 0;
    private int wrongAnswers = 0;

    /** Runs one test; it has failed if an answer in it was not the one due or if it threw. */
    void test(String name, Runnable body) {
        wrongAnswers = 0;
        try {
            body.run();
        } catch (RuntimeException | Error thrown) {
            wrongAnswers++;
            thrown.printStackTrace(System.out);
        }
        if (wrongAnswers == 0) {
            System.out.println("pass: " + name);
        } else {
            failedTests++;
            System.out.println("FAIL: " + name);
        }
    }

    void due(String what, long got, long want) {
        if (got != want) {
            wrongAnswers++;
            System.out.println("  " + what + " answered " + got + ", due is " + want);
        }
    }

    void due(String what, String got, String want) {
        if (!got.equals(want)) {
            wrongAnswers++;
            System.out.println("  " + what + " is " + got + ", due is " + want);
        }
    }

    /** An act that takes place: it records one state, and undo brings back all that was. */
    void act(String what, Supplier<MorphWords> made, ToIntFunction<MorphWords> call, int want) {
        MorphWords words = made.get();
        String before = Words.state(words);
        int held = words.count(6);
        int length = words.count(7);
        due(what, call.applyAsInt(words), want);
        int recorded = Math.min(held + 1, 4);
        due(what + ", states in the history", words.count(6), recorded);
        due(what + ", undone", words.undo(), recorded - 1);
        due(what + ", the state when undone", Words.state(words), before);
        due(what + ", the text's length", words.count(7), length);
    }

    /** A call that changes nothing, because it answers an error or NONE or only tells. */
    void idle(String what, Supplier<MorphWords> made, ToIntFunction<MorphWords> call, int want) {
        MorphWords words = made.get();
        String before = Words.all(words);
        due(what, call.applyAsInt(words), want);
        due(what + ", all behind it", Words.all(words), before);
    }

    /** Ends the program, with 1 if a test has failed. */
    void end() {
        System.exit(failedTests == 0 ? 0 : 1);
    }
}
