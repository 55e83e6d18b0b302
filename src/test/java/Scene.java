import java.util.function.Consumer;
import java.util.function.Supplier;

/** Makes objects that are all in one state, each of them anew, by the same calls. */
final class Scene implements Supplier<MorphWords> {
    private final Consumer<MorphWords> calls;

    private Scene(Consumer<MorphWords> calls) {
        this.calls = calls;
    }

    /** An object on which nothing was called. */
    static Scene fresh() {
        return new Scene(words -> { });
    }

    /** An object that has a snapshot, a full history and a text, so that a change of any is seen. */
    static Scene laden() {
        return fresh().rule("b=cd").piece("dc").then(MorphWords::keep).then(words -> {
            words.undo();
            words.undo();
            for (int letter = 3; letter >= 0; letter--) {
                words.start(letter);
            }
        });
    }

    /** A laden object whose word is an a for each of 99 letters, and a b behind them. */
    static Scene hundred() {
        return laden().word("a".repeat(23) + "b").rule("a=aaaa;b=aaaaaaab").grow(1);
    }

    /** A laden object whose word is an a for each of 300 letters, so there is no more room. */
    static Scene full() {
        return laden().rule("a=aaaaaaaa").grow(20);
    }

    Scene then(Consumer<MorphWords> call) {
        return new Scene(calls.andThen(call));
    }

    /** Changes the rule by a text; what is not told stays. */
    Scene rule(String text) {
        return then(words -> mustBe(Words.read(words, text) > 0, text));
    }

    /** Puts a word of at most 24 letters in place; each letter is its own image then. */
    Scene word(String word) {
        return then(words -> Words.put(words, word));
    }

    Scene grow(int times) {
        return then(words -> mustBe(words.grow(times) > 0, "grow " + times));
    }

    Scene piece(String piece) {
        return then(words -> mustBe(Words.look(words, piece) >= 0, piece));
    }

    Scene text(String text) {
        return then(words -> Words.type(words, text));
    }

    @Override
    public MorphWords get() {
        MorphWords words = new MorphWords();
        calls.accept(words);
        return words;
    }

    private static void mustBe(boolean so, String what) {
        if (!so) {
            throw new IllegalStateException("a scene that cannot be made: " + what);
        }
    }
}
