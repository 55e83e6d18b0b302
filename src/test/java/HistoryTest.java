import java.util.function.Supplier;

/** Promises 11 to 15 and 30 for ordinary inputs: the text, the history, the snapshot, and what is counted. */
public final class HistoryTest {
    private static final Checks CHECKS = new Checks();

    private HistoryTest() {
    }

    public static void main(String[] args) {
        CHECKS.test("promise 11: type", HistoryTest::type);
        CHECKS.test("promise 12: clearText", HistoryTest::clearText);
        CHECKS.test("promise 13: undo", HistoryTest::undo);
        CHECKS.test("promise 13: undo brings all of a state back", HistoryTest::undoAll);
        CHECKS.test("promise 14: keep", HistoryTest::keep);
        CHECKS.test("promise 15: restore", HistoryTest::restore);
        CHECKS.test("promise 30: count", HistoryTest::count);
        CHECKS.end();
    }

    private static void type() {
        MorphWords words = new MorphWords();
        String signs = "a=;\u0000\u00ff\u0100\u2603\uffff\n ";
        for (int i = 0; i < 60; i++) {
            char sign = signs.charAt(i % signs.length());
            CHECKS.due("character " + i, words.type(sign), i + 1);
        }
        CHECKS.due("one more", words.type('a'), -3);
        CHECKS.due("one more, again", words.type('b'), -3);
        CHECKS.due("the length", words.count(7), 60);
        CHECKS.due("no act", words.count(6), 0);
        CHECKS.due("what was typed", words.readRule(), -102);
        MorphWords full = Words.withText("a=b", "a=a;".repeat(15));
        CHECKS.due("the one too many is not typed", full.type('a') + full.readRule(), -3 - 160);
        MorphWords behind = Words.withText("a=b", "a=");
        behind.type('c');
        CHECKS.due("behind the text", behind.readRule(), 1);
        CHECKS.due("the letter that was typed", behind.image(0, 0), 2);
    }

    private static void clearText() {
        MorphWords words = new MorphWords();
        CHECKS.due("empty at first", words.clearText(), 0);
        words.type('a');
        words.type('b');
        CHECKS.due("two characters", words.clearText(), 2);
        CHECKS.due("empty then", words.clearText(), 0);
        CHECKS.due("the length", words.count(7), 0);
        CHECKS.due("no act", words.count(6), 0);
        CHECKS.due("it begins anew", words.type('c'), 1);
        CHECKS.due("the piece is what was typed then", words.look(), 0);
        MorphWords full = Words.withText("a=b", "a".repeat(60));
        CHECKS.due("60 characters", full.clearText(), 60);
        CHECKS.due("room again", full.type('a'), 1);
    }

    /** An object behind six acts, of which the history holds the states ahead of the last four. */
    private static MorphWords behindSixActs() {
        MorphWords words = Words.withRule("a=ab;b=c;c=a");
        words.grow(3);
        words.start(1);
        words.swap(0, 3);
        words.grow(2);
        Words.look(words, "d");
        return words;
    }

    private static void undo() {
        MorphWords words = behindSixActs();
        CHECKS.due("at most four states", words.count(6), 4);
        CHECKS.due("the piece goes", words.undo(), 3);
        CHECKS.due("no piece", words.count(2), 0);
        CHECKS.due("the length of the word still", words.count(0), 1);
        CHECKS.due("the growth goes", words.undo(), 2);
        CHECKS.due("the word", Words.word(words), "b");
        CHECKS.due("the rule still", Words.rule(words), "a;c;d;db");
        CHECKS.due("the exchange goes", words.undo(), 1);
        CHECKS.due("the rule", Words.rule(words), "ab;c;a;d");
        CHECKS.due("the start goes", words.undo(), 0);
        CHECKS.due("the word that was grown", Words.word(words), "abcab".substring(0, words.count(0)));
        CHECKS.due("its length", words.count(0), 4);
        CHECKS.due("the oldest ones were dropped", words.undo(), -5);
        CHECKS.due("the text is not brought back", words.count(7), 1);
        CHECKS.due("an act behind it", words.start(3), 4);
        CHECKS.due("the history begins anew", words.count(6), 1);
    }

    private static void undoAll() {
        MorphWords words = behindSixActs();
        for (int round = 0; round < 3; round++) {
            String before = Words.state(words);
            words.start(round);
            Words.look(words, "abcd".substring(round));
            words.undo();
            words.undo();
            CHECKS.due("the state of round " + round, Words.state(words), before);
        }
        MorphWords many = new MorphWords();
        for (int i = 0; i < 30; i++) {
            many.start((i + 1) % 4);
            CHECKS.due("states behind " + i, many.count(6), Math.min(i + 1, 4));
        }
        for (int left = 3; left >= 0; left--) {
            CHECKS.due("states left", many.undo(), left);
            CHECKS.due("the letter then", many.at(0), (26 + left) % 4);
        }
        CHECKS.due("no state left", many.undo(), -5);
    }

    private static MorphWords withSnapshot() {
        MorphWords words = Words.withRule("a=ab;b=c");
        words.grow(3);
        Words.look(words, "c");
        words.keep();
        return words;
    }

    private static void keep() {
        MorphWords words = withSnapshot();
        CHECKS.due("states in the history", words.count(6), 3);
        words.start(3);
        CHECKS.due("another snapshot", words.keep(), 1);
        words.start(1);
        words.restore();
        CHECKS.due("the later snapshot counts", Words.word(words), "d");
        words.undo();
        words.undo();
        words.undo();
        CHECKS.due("undo does not change the snapshot", words.restore(), 1);
        CHECKS.due("the snapshot's word", Words.word(words), "d");
    }

    private static void restore() {
        CHECKS.act("to the state that is", HistoryTest::withSnapshot, MorphWords::restore, 4);
        Supplier<MorphWords> changed = () -> {
            MorphWords words = withSnapshot();
            words.swap(0, 2);
            Words.look(words, "ab");
            return words;
        };
        CHECKS.act("to another state", changed, MorphWords::restore, 4);
        MorphWords words = withSnapshot();
        String kept = Words.state(words);
        words.swap(0, 2);
        Words.look(words, "abb");
        words.start(3);
        CHECKS.due("restored", words.restore(), 4);
        CHECKS.due("the state", Words.state(words), kept);
        CHECKS.due("the text stays", words.count(7), 3);
        CHECKS.due("the history stays", words.count(6), 4);
        words.grow(1);
        CHECKS.due("the snapshot stays", words.restore(), 4);
        CHECKS.due("the state again", Words.state(words), kept);
        MorphWords early = new MorphWords();
        early.keep();
        Words.look(early, "a");
        CHECKS.due("a snapshot without a piece", early.restore(), 1);
        CHECKS.due("no piece", early.count(3), -5);
    }

    private static void count() {
        MorphWords words = Words.withRule("a=ab;b=ca");
        words.grow(2);
        int[] due = {4, 7, 0, -5, -5, 6, 2, 9, -2};
        for (int what = 0; what < due.length; what++) {
            CHECKS.due("count(" + what + ")", words.count(what), due[what]);
        }
        Words.look(words, "a");
        int[] dueThen = {4, 7, 1, 2, 1, 6, 3, 1, -2};
        for (int what = 0; what < dueThen.length; what++) {
            CHECKS.due("count(" + what + ") then", words.count(what), dueThen[what]);
        }
        MorphWords once = Words.withPiece("abcd", "d");
        CHECKS.due("comes once", once.count(3), 1);
        CHECKS.due("no return", once.count(4), 0);
        MorphWords never = Words.withPiece("abca", "dda");
        CHECKS.due("comes never", never.count(3), 0);
        CHECKS.due("no return either", never.count(4), 0);
        CHECKS.due("length of what never comes", never.count(2), 3);
        MorphWords most = Words.withRule("a=abcdabcd;b=abcdabcd;c=abcdabcd;d=abcdabcd");
        most.grow(3);
        CHECKS.due("the most letters of images", most.count(5), 32);
        CHECKS.due("the most letters of a word", most.count(0), 300);
        CHECKS.due("all four", most.count(1), 15);
        most.start(3);
        CHECKS.due("one letter alone", most.count(1), 8);
    }
}
