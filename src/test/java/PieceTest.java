import java.util.function.Supplier;

/** Promises 10 and 27 to 29 for ordinary inputs: the piece that is looked for, its places, its returns. */
public final class PieceTest {
    private static final Checks CHECKS = new Checks();
    private static final String FIBONACCI = "abaababaabaab";

    private PieceTest() {
    }

    public static void main(String[] args) {
        CHECKS.test("promise 10: look", PieceTest::look);
        CHECKS.test("promise 27: comes", PieceTest::comes);
        CHECKS.test("promise 28: returns", PieceTest::returns);
        CHECKS.test("promise 29: row", PieceTest::row);
        CHECKS.test("promises 27 to 29: a word of 300 letters", PieceTest::longWord);
        CHECKS.end();
    }

    private static Supplier<MorphWords> typed(String word, String piece, String text) {
        return () -> {
            MorphWords words = Words.withPiece(word, piece);
            Words.type(words, text);
            return words;
        };
    }

    private static void look() {
        String longest = "abcdabcdabcdabcdabcd";
        CHECKS.act("one that comes", typed(FIBONACCI, "b", "aba"), MorphWords::look, 4);
        CHECKS.act("one that overlaps", typed("aaaaa", "b", "aa"), MorphWords::look, 4);
        CHECKS.act("one that does not come", typed(FIBONACCI, "b", "d"), MorphWords::look, 0);
        CHECKS.act("one that the other begins with", typed(FIBONACCI, "ab", "a"), MorphWords::look, 8);
        CHECKS.act("one that begins with the other", typed(FIBONACCI, "a", "ab"), MorphWords::look, 5);
        CHECKS.act("the whole word", typed("abcd", "b", "abcd"), MorphWords::look, 1);
        CHECKS.act("longer than the word", typed("abcd", "b", "abcda"), MorphWords::look, 0);
        CHECKS.act("20 letters", typed(longest + "a", "b", longest), MorphWords::look, 1);
        MorphWords words = Words.withPiece(FIBONACCI, "aba");
        CHECKS.due("the text stays", words.count(7), 3);
        CHECKS.due("the length of the piece", words.count(2), 3);
        CHECKS.due("the word stays", Words.word(words), FIBONACCI);
        words.undo();
        CHECKS.due("none is looked for when undone", words.count(2), 0);
        CHECKS.due("it comes again", words.look(), 4);
    }

    private static void comes() {
        MorphWords words = Words.withPiece(FIBONACCI, "aba");
        int[] due = {0, 3, 5, 8, -5, -5};
        for (int rank = 0; rank < due.length; rank++) {
            CHECKS.due("comes(" + rank + ")", words.comes(rank), due[rank]);
        }
        CHECKS.due("at the end", Words.withPiece("aab", "b").comes(0), 2);
        words.cut(6);
        CHECKS.due("not behind the cut word", words.comes(1), 3);
        CHECKS.due("not across its end", words.comes(2), -5);
    }

    private static void returns() {
        MorphWords words = Words.withPiece(FIBONACCI, "aba");
        int[][] due = {{3, 0, 2}, {2, 3, 1}, {-5, -5, -5}};
        for (int number = 0; number < due.length; number++) {
            for (int what = 0; what < 3; what++) {
                String call = "returns(" + number + ", " + what + ")";
                CHECKS.due(call, words.returns(number, what), due[number][what]);
            }
        }
        // ab stands at 0 too, but begins as a return at 3, where the piece comes.
        CHECKS.due("the place as a return", words.returns(1, 1), 3);
        MorphWords sameLength = Words.withPiece("abacabad", "a");
        CHECKS.due("the same length, other letters", sameLength.count(4), 2);
        CHECKS.due("the first place of the second one", sameLength.returns(1, 1), 2);
        CHECKS.due("the first one comes twice", sameLength.returns(0, 2), 2);
        MorphWords last = Words.withPiece("abcab", "ab");
        CHECKS.due("the last place has no return", last.returns(1, 0), -5);
        CHECKS.due("the only return", last.returns(0, 0), 3);
        MorphWords far = Words.withPiece("aaabaaba", "aa");
        CHECKS.due("a letter", far.returns(0, 0), 1);
        CHECKS.due("three letters", far.returns(1, 0), 3);
        CHECKS.due("where three letters begin", far.returns(1, 1), 1);
        MorphWords many = Words.withPiece("aabacadabba", "a");
        CHECKS.due("five returns", many.count(4), 5);
        CHECKS.due("the fifth", many.returns(4, 0), 3);
    }

    private static void row() {
        MorphWords words = Words.withPiece("abaababaabaababaababa", "aba");
        int[] due = {0, 1, 0, 0, 1, 0, 1, -5};
        for (int place = 0; place < due.length; place++) {
            CHECKS.due("row(" + place + ")", words.row(place), due[place]);
        }
        MorphWords many = Words.withPiece("aabacadabbaba", "a");
        int[] dueOfMany = {0, 1, 2, 3, 4, 1, -5};
        for (int place = 0; place < dueOfMany.length; place++) {
            CHECKS.due("row(" + place + ") of many", many.row(place), dueOfMany[place]);
        }
    }

    private static void longWord() {
        MorphWords words = Words.withRule("a=aaaaaaaa");
        words.grow(20);
        CHECKS.due("how often it comes", Words.look(words, "a"), 300);
        CHECKS.due("the last place", words.comes(299), 299);
        CHECKS.due("no place behind it", words.comes(300), -5);
        CHECKS.due("the end of the row", words.row(298), 0);
        CHECKS.due("behind the end of the row", words.row(299), -5);
        CHECKS.due("how often the return comes", words.returns(0, 2), 299);
        CHECKS.due("the length of the row as a word", words.derive(), 299);
    }
}
