import java.util.function.Function;

/** What can be seen of an object. Looking may change the object, so each side takes one of its own. */
enum Side {
    STATE(Words::state),
    PIECE(Words::soughtPiece),
    HISTORY_LENGTH(words -> "" + words.count(6)),
    LATEST_STATE(words -> Words.stateBack(words, 1)),
    SECOND_STATE(words -> Words.stateBack(words, 2)),
    THIRD_STATE(words -> Words.stateBack(words, 3)),
    OLDEST_STATE(words -> Words.stateBack(words, 4)),
    SNAPSHOT(words -> words.restore() + " " + Words.state(words)),
    SNAPSHOT_PIECE(words -> words.restore() + " " + Words.soughtPiece(words)),
    TEXT_LENGTH(words -> "" + words.count(7)),
    TEXT_AS_RULE(words -> words.readRule() + " " + Words.rule(words)),
    TEXT_AS_PIECE(words -> words.look() + " " + Words.soughtPiece(words));

    private final Function<MorphWords, String> look;

    Side(Function<MorphWords, String> look) {
        this.look = look;
    }

    String of(MorphWords words) {
        return look.apply(words);
    }

    /** Whether an act that is undone leaves this side as it was: it may have dropped the oldest state. */
    boolean survivesUndoneAct() {
        return switch (this) {
            case HISTORY_LENGTH, THIRD_STATE, OLDEST_STATE, LATEST_STATE, SECOND_STATE -> false;
            default -> true;
        };
    }
}
