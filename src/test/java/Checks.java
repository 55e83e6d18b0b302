import java.util.function.Supplier;
import java.util.function.ToIntFunction;

/** Counts the tests of one test program and tells each of them in a line of its own. */
final class Checks {
    private static final int HISTORY_ROOM = 4;

    private int failedTests = 0;
    private int wrongAnswers = 0;

    /** Runs one test; it has failed if an answer in it was not the one due or if it threw. */
    void test(String name, Runnable body) {
        wrongAnswers = 0;
        try {
            body.run();
        } catch (RuntimeException | Error thrown) {
            wrongAnswers++;
            thrown.printStackTrace(System.out);
        }
        if (wrongAnswers == 0) {
            System.out.println("pass: " + name);
        } else {
            failedTests++;
            System.out.println("FAIL: " + name);
        }
    }

    void due(String what, long got, long want) {
        if (got != want) {
            wrongAnswers++;
            System.out.println("  " + what + " answered " + got + ", due is " + want);
        }
    }

    void due(String what, String got, String want) {
        if (!got.equals(want)) {
            wrongAnswers++;
            System.out.println("  " + what + " is " + got + ", due is " + want);
        }
    }

    /** One test: the call answers so and changes nothing. */
    void leaves(String name, Supplier<MorphWords> made, ToIntFunction<MorphWords> call, int want) {
        test(name, () -> idle("the call", made, call, want));
    }

    /** One test: the call is an act that takes place and answers so. */
    void acts(String name, Supplier<MorphWords> made, ToIntFunction<MorphWords> call, int want) {
        test(name, () -> act("the call", made, call, want));
    }

    /** One test: the call is an act that takes place and answers so, and this is the state then. */
    void acts(String name, Supplier<MorphWords> made, ToIntFunction<MorphWords> call, int want, String state) {
        test(name, () -> {
            act("the call", made, call, want);
            MorphWords words = made.get();
            call.applyAsInt(words);
            due("the state behind it", Words.state(words), state);
        });
    }

    /** An act that takes place: it records one state, undo brings it back, and nothing else changes. */
    void act(String what, Supplier<MorphWords> made, ToIntFunction<MorphWords> call, int want) {
        MorphWords words = made.get();
        int held = words.count(6);
        int recorded = Math.min(held + 1, HISTORY_ROOM);
        due(what, call.applyAsInt(words), want);
        due(what + ", states in the history", words.count(6), recorded);
        due(what + ", undone", words.undo(), recorded - 1);
        for (Side side : Side.values()) {
            if (side.survivesUndoneAct()) {
                MorphWords undone = behind(made, call);
                undone.undo();
                due(what + ", undone, " + side, side.of(undone), side.of(made.get()));
            }
        }
        for (int back = 1; back < recorded; back++) {
            String before = Words.stateBack(made.get(), back);
            due(what + ", state " + back + " of those before", Words.stateBack(behind(made, call), back + 1), before);
        }
    }

    /** A call that changes nothing, because it answers an error or NONE or only tells. */
    void idle(String what, Supplier<MorphWords> made, ToIntFunction<MorphWords> call, int want) {
        MorphWords words = made.get();
        due(what, call.applyAsInt(words), want);
        due(what + ", once more", call.applyAsInt(words), want);
        for (Side side : Side.values()) {
            due(what + ", " + side, side.of(behind(made, call)), side.of(made.get()));
        }
    }

    private static MorphWords behind(Supplier<MorphWords> made, ToIntFunction<MorphWords> call) {
        MorphWords words = made.get();
        call.applyAsInt(words);
        return words;
    }

    /** Ends the program, with 1 if a test has failed. */
    void end() {
        System.exit(failedTests == 0 ? 0 : 1);
    }
}
