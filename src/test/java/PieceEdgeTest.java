/** Promises 10 and 27 to 29 at their edges: a test for each boundary that the document names. */
public final class PieceEdgeTest implements Answers {
    private static final Checks CHECKS = new Checks();
    private static final String TWENTY = "abcdabcdabcdabcdabcd";
    private static final Scene NO_PIECE = Scene.laden().word("abab");
    private static final Scene NOT_COMING = NO_PIECE.piece("c");
    private static final Scene COMING_ONCE = NO_PIECE.piece("bab");
    private static final Scene COMING_TWICE = NO_PIECE.piece("ab");
    private static final Scene OVERLAPPING = Scene.laden().word("aaaa").piece("aa");
    private static final Scene WHOLE_WORD = NO_PIECE.piece("abab");
    private static final Scene LONGER = NO_PIECE.piece("ababa");
    private static final Scene ONE_LETTER = Scene.laden().piece("a");
    private static final Scene FULL_WORD = Scene.full().piece("a");
    private static final Scene FIBONACCI = Scene.laden().word("abaababaabaab").piece("aba");

    private PieceEdgeTest() {
    }

    public static void main(String[] args) {
        look();
        lookedForAlready();
        textsThatEndTooEarly();
        charactersThatAreNotAllowed();
        comes();
        comesArguments();
        returns();
        returnsThatAreDifferent();
        returnsArguments();
        row();
        rowArguments();
        CHECKS.end();
    }

    private static Scene typed(String word, String text) {
        return Scene.laden().word(word).piece("dd").text(text);
    }

    private static void looks(String name, String word, String text, int want) {
        Scene scene = typed(word, text);
        CHECKS.test("promise 10: look, " + name, () -> {
            CHECKS.act("look", scene, MorphWords::look, want);
            MorphWords words = scene.get();
            words.look();
            CHECKS.due("the length of the piece", words.count(2), text.length());
            CHECKS.due("how often it comes", words.count(3), want);
            CHECKS.due("the word", Words.word(words), word);
            CHECKS.due("the length of the text, which stays", words.count(7), text.length());
            CHECKS.due("the same text once more", words.look(), NONE);
        });
    }

    private static void look() {
        looks("1 letter, the fewest", "abcd", "d", 1);
        looks("20 letters, the most", TWENTY + "a", TWENTY, 1);
        looks("20 letters in a word of just these", TWENTY, TWENTY, 1);
        looks("19 letters", TWENTY, TWENTY.substring(1), 1);
        looks("20 letters that come but for the last one", TWENTY.substring(1) + "b", TWENTY.substring(1) + "a", 0);
        looks("a piece that does not come: 0, and an act", "abab", "c", 0);
        looks("a piece that comes once", "abab", "bab", 1);
        looks("a piece that comes twice", "abab", "ab", 2);
        looks("a piece that overlaps itself", "aaaa", "aa", 3);
        looks("a piece that overlaps itself by two letters", "abababa", "aba", 3);
        looks("a piece that is the whole word", "abab", "abab", 1);
        looks("a piece that is longer than the word by one letter: 0, and an act", "abab", "ababa", 0);
        looks("a piece of 20 letters, and a word of one: 0, and an act", "a", "a".repeat(20), 0);
        looks("a word of one letter, the piece", "a", "a", 1);
        looks("a word of one letter, another one: 0, and an act", "a", "b", 0);
        looks("a piece at the end of the word only", "aaab", "ab", 1);
        looks("a piece whose beginning stands at the end of the word", "abca", "ab", 1);
        CHECKS.acts("promise 10: look, 300 places", Scene.full().text("a"), MorphWords::look, 300);
        CHECKS.acts("promise 10: look, 281 places for 20 letters",
            Scene.full().text("a".repeat(20)), MorphWords::look, 281);
        CHECKS.acts("promise 10: look, where none was looked for", NO_PIECE.text("ab"), MorphWords::look, 2);
    }

    private static void lookedForAlready() {
        CHECKS.leaves("promise 10: look, looked for already: NONE", COMING_TWICE, MorphWords::look, NONE);
        CHECKS.leaves("promise 10: look, looked for already, though it does not come: NONE",
            NOT_COMING, MorphWords::look, NONE);
        CHECKS.leaves("promise 10: look, 20 letters that are looked for already: NONE",
            NO_PIECE.piece(TWENTY), MorphWords::look, NONE);
        CHECKS.acts("promise 10: look, one letter less than what is looked for, at the end",
            COMING_TWICE.text("a"), MorphWords::look, 2);
        CHECKS.acts("promise 10: look, one letter more than what is looked for, at the end",
            COMING_TWICE.text("aba"), MorphWords::look, 1);
        CHECKS.acts("promise 10: look, only the last of 20 letters is another one",
            NO_PIECE.piece(TWENTY).text(TWENTY.substring(0, 19) + "a"), MorphWords::look, 0);
        CHECKS.leaves("promise 10: look, a fault goes ahead of NONE: a character behind what is looked for",
            COMING_TWICE.text("ab;"), MorphWords::look, Words.faultAt(2));
        CHECKS.leaves("promise 10: look, a fault goes ahead of NONE: the 21st letter behind what is looked for",
            NO_PIECE.piece(TWENTY).text(TWENTY + "a"), MorphWords::look, Words.faultAt(20));
        CHECKS.leaves("promise 10: look, a fault goes ahead of NONE: no text, as none is looked for",
            NO_PIECE.text(""), MorphWords::look, Words.faultAt(0));
    }

    private static void textsThatEndTooEarly() {
        CHECKS.leaves("promise 10: look, the fault of no text", Scene.fresh(), MorphWords::look, Words.faultAt(0));
        CHECKS.leaves("promise 10: look, the fault of an empty text",
            COMING_TWICE.then(MorphWords::clearText), MorphWords::look, Words.faultAt(0));
    }

    private static void fault(String name, String text, int place) {
        CHECKS.leaves("promise 10: look, the fault of " + name, typed("abab", text), MorphWords::look,
            Words.faultAt(place));
    }

    private static void charactersThatAreNotAllowed() {
        for (char sign : new char[] {'`', 'e', 'A', 'D', ' ', '0', '=', ';', 0, 255, 256, 0x161, 0xffff}) {
            fault("(char) " + (int) sign + " at the first place", sign + "ab", 0);
            fault("(char) " + (int) sign + " at a later place", "ab" + sign + "a", 2);
            fault("(char) " + (int) sign + " at the last place", "abc" + sign, 3);
        }
        fault("several characters: the first of them", "ab;c;=", 2);
        fault("a text of a rule", "a=ab", 1);
        fault("the 20th character", TWENTY.substring(1) + "e", 19);
        fault("a 21st letter", TWENTY + "a", 20);
        fault("a 21st letter and more, 60 of them", TWENTY.repeat(3), 20);
        fault("a 21st character that is no letter", TWENTY + "=", 20);
        fault("a 21st letter and a 22nd character that is none", TWENTY + "a;", 20);
    }

    private static void comesAt(String name, Scene scene, int rank, int want) {
        CHECKS.leaves("promise 27: comes, " + name, scene, words -> words.comes(rank), want);
    }

    private static void comes() {
        comesAt("rank 0, the first one", COMING_TWICE, 0, 0);
        comesAt("the last rank", COMING_TWICE, 1, 2);
        comesAt("one rank behind the last one: NONE", COMING_TWICE, 2, NONE);
        comesAt("a piece that comes once", COMING_ONCE, 0, 1);
        comesAt("a piece that comes once, not twice: NONE", COMING_ONCE, 1, NONE);
        comesAt("a piece that does not come: NONE", NOT_COMING, 0, NONE);
        comesAt("a piece that is longer than the word: NONE", LONGER, 0, NONE);
        comesAt("a piece that is the whole word", WHOLE_WORD, 0, 0);
        comesAt("a piece that overlaps itself", OVERLAPPING, 1, 1);
        comesAt("a piece that overlaps itself, the last place", OVERLAPPING, 2, 2);
        comesAt("a piece that overlaps itself, not across the end: NONE", OVERLAPPING, 3, NONE);
        comesAt("a word of one letter", ONE_LETTER, 0, 0);
        comesAt("a word of one letter, not twice: NONE", ONE_LETTER, 1, NONE);
        comesAt("the last of 300 places", FULL_WORD, 299, 299);
        comesAt("behind the last of 300 places: NONE", FULL_WORD, 300, NONE);
        comesAt("a piece of 20 letters, the last of 281 places", Scene.full().piece("a".repeat(20)), 280, 280);
        comesAt("a piece of 20 letters, behind these: NONE", Scene.full().piece("a".repeat(20)), 281, NONE);
        comesAt("a word that has been cut through the piece: NONE",
            COMING_TWICE.then(words -> words.cut(3)), 1, NONE);
        comesAt("no piece is looked for: NOT_POSSIBLE", NO_PIECE, 0, NOT_POSSIBLE);
        comesAt("no piece is looked for, a new object: NOT_POSSIBLE", Scene.fresh(), 0, NOT_POSSIBLE);
    }

    private static void comesArguments() {
        comesAt("the largest rank: NONE", COMING_TWICE, Integer.MAX_VALUE, NONE);
        comesAt("the largest rank and no piece: NOT_POSSIBLE goes ahead of NONE",
            NO_PIECE, Integer.MAX_VALUE, NOT_POSSIBLE);
        for (int bad : new int[] {-1, Integer.MIN_VALUE}) {
            comesAt("rank " + bad + ": BAD_VALUE", COMING_TWICE, bad, BAD_VALUE);
            comesAt("rank " + bad + " and no piece: BAD_VALUE goes ahead of NOT_POSSIBLE", NO_PIECE, bad, BAD_VALUE);
            comesAt("rank " + bad + " and a piece that does not come: BAD_VALUE goes ahead of NONE",
                NOT_COMING, bad, BAD_VALUE);
        }
    }

    /** What is told of a return: its length, the first place where it begins, how often it comes. */
    private static void returnOf(String name, Scene scene, int number, int... due) {
        for (int what = 0; what < due.length; what++) {
            int asked = what;
            CHECKS.leaves("promise 28: returns, what " + what + ", " + name, scene,
                words -> words.returns(number, asked), due[what]);
        }
    }

    private static void returns() {
        returnOf("number 0, the first one", FIBONACCI, 0, 3, 0, 2);
        returnOf("the last number, which begins first as a return at 3", FIBONACCI, 1, 2, 3, 1);
        returnOf("one number behind the last one: NONE", FIBONACCI, 2, NONE, NONE, NONE);
        returnOf("a piece that comes twice, the fewest times", COMING_TWICE, 0, 2, 0, 1);
        returnOf("a piece that comes twice has no second return: NONE", COMING_TWICE, 1, NONE, NONE, NONE);
        returnOf("a piece that comes once: NONE", COMING_ONCE, 0, NONE, NONE, NONE);
        returnOf("a piece that does not come: NONE", NOT_COMING, 0, NONE, NONE, NONE);
        returnOf("a piece that is longer than the word: NONE", LONGER, 0, NONE, NONE, NONE);
        returnOf("a piece that is the whole word: NONE", WHOLE_WORD, 0, NONE, NONE, NONE);
        returnOf("a word of one letter: NONE", ONE_LETTER, 0, NONE, NONE, NONE);
        returnOf("a return that is shorter than the piece, which overlaps itself", OVERLAPPING, 0, 1, 0, 2);
        returnOf("299 times in 300 letters", FULL_WORD, 0, 1, 0, 299);
        returnOf("no piece is looked for: NOT_POSSIBLE", NO_PIECE, 0, NOT_POSSIBLE, NOT_POSSIBLE, NOT_POSSIBLE);
        returnOf("no piece is looked for, a new object: NOT_POSSIBLE", Scene.fresh(), 0,
            NOT_POSSIBLE, NOT_POSSIBLE, NOT_POSSIBLE);
    }

    private static void returnsThatAreDifferent() {
        Scene sameLength = Scene.laden().word("cabacabada").piece("a");
        returnOf("of the same length, other letters, the first one", sameLength, 0, 2, 1, 2);
        returnOf("of the same length, other letters, the second one", sameLength, 1, 2, 3, 1);
        returnOf("of the same length, other letters, the third one", sameLength, 2, 2, 7, 1);
        Scene beginnings = Scene.laden().word("abcabacba").piece("a");
        returnOf("that another one begins with, the longer one", beginnings, 0, 3, 0, 1);
        returnOf("that another one begins with, the shorter one", beginnings, 1, 2, 3, 1);
        returnOf("with the same letters, in another order", beginnings, 2, 3, 5, 1);
        Scene ends = Scene.laden().word("bbabcab").piece("b");
        returnOf("that ends ahead of the last place: what is behind that is none", ends, 3, NONE, NONE, NONE);
        returnOf("that ends at the last place", ends, 2, 3, 3, 1);
        Scene five = Scene.laden().word("aabacadabba").piece("a");
        returnOf("the fifth of five different ones", five, 4, 3, 7, 1);
        returnOf("a sixth of five different ones: NONE", five, 5, NONE, NONE, NONE);
    }

    private static void returnsArguments() {
        int most = Integer.MAX_VALUE;
        returnOf("the largest number: NONE", FIBONACCI, most, NONE, NONE, NONE);
        returnOf("the largest number and no piece: NOT_POSSIBLE goes ahead of NONE", NO_PIECE, most,
            NOT_POSSIBLE, NOT_POSSIBLE, NOT_POSSIBLE);
        for (int bad : new int[] {-1, Integer.MIN_VALUE}) {
            returnOf("number " + bad + ": BAD_VALUE", FIBONACCI, bad, BAD_VALUE, BAD_VALUE, BAD_VALUE);
            returnOf("number " + bad + " and no piece: BAD_VALUE goes ahead of NOT_POSSIBLE", NO_PIECE, bad,
                BAD_VALUE, BAD_VALUE, BAD_VALUE);
            returnOf("number " + bad + " and no return: BAD_VALUE goes ahead of NONE", COMING_ONCE, bad,
                BAD_VALUE, BAD_VALUE, BAD_VALUE);
        }
        for (int bad : Words.outside(0, 2)) {
            whatOf(bad, "", FIBONACCI, 0);
            whatOf(bad, " and no piece: goes ahead of NOT_POSSIBLE", NO_PIECE, 0);
            whatOf(bad, " and not so many returns: goes ahead of NONE", FIBONACCI, 2);
            whatOf(bad, " and a piece that does not come: goes ahead of NONE", NOT_COMING, 0);
            whatOf(bad, " and number -1", FIBONACCI, -1);
        }
    }

    private static void whatOf(int bad, String name, Scene scene, int number) {
        CHECKS.leaves("promise 28: returns, BAD_VALUE: what is " + bad + name, scene,
            words -> words.returns(number, bad), BAD_VALUE);
    }

    private static void rowAt(String name, Scene scene, int place, int want) {
        CHECKS.leaves("promise 29: row, " + name, scene, words -> words.row(place), want);
    }

    private static void row() {
        rowAt("place 0, which is always return 0", FIBONACCI, 0, 0);
        rowAt("a return that comes for the first time", FIBONACCI, 1, 1);
        rowAt("the last place, a return that comes again", FIBONACCI, 2, 0);
        rowAt("one place behind the last one: NONE", FIBONACCI, 3, NONE);
        rowAt("a piece that comes twice, the only place", COMING_TWICE, 0, 0);
        rowAt("a piece that comes twice, behind the only place: NONE", COMING_TWICE, 1, NONE);
        rowAt("a piece that comes once: NONE", COMING_ONCE, 0, NONE);
        rowAt("a piece that does not come: NONE", NOT_COMING, 0, NONE);
        rowAt("a piece that is longer than the word: NONE", LONGER, 0, NONE);
        rowAt("a piece that is the whole word: NONE", WHOLE_WORD, 0, NONE);
        rowAt("a word of one letter: NONE", ONE_LETTER, 0, NONE);
        rowAt("a piece that overlaps itself, the last place", OVERLAPPING, 1, 0);
        rowAt("a piece that overlaps itself, behind the last place: NONE", OVERLAPPING, 2, NONE);
        rowAt("a fifth return, more than there are letters", Scene.laden().word("aabacadabba").piece("a"), 4, 4);
        rowAt("the last place of 300 letters", FULL_WORD, 298, 0);
        rowAt("behind the last place of 300 letters: NONE", FULL_WORD, 299, NONE);
        rowAt("no piece is looked for: NOT_POSSIBLE", NO_PIECE, 0, NOT_POSSIBLE);
        rowAt("no piece is looked for, a new object: NOT_POSSIBLE", Scene.fresh(), 0, NOT_POSSIBLE);
    }

    private static void rowArguments() {
        rowAt("the largest place: NONE", FIBONACCI, Integer.MAX_VALUE, NONE);
        rowAt("the largest place and no piece: NOT_POSSIBLE goes ahead of NONE",
            NO_PIECE, Integer.MAX_VALUE, NOT_POSSIBLE);
        for (int bad : new int[] {-1, Integer.MIN_VALUE}) {
            rowAt("place " + bad + ": BAD_VALUE", FIBONACCI, bad, BAD_VALUE);
            rowAt("place " + bad + " and no piece: BAD_VALUE goes ahead of NOT_POSSIBLE", NO_PIECE, bad, BAD_VALUE);
            rowAt("place " + bad + " and a piece that comes once: BAD_VALUE goes ahead of NONE",
                COMING_ONCE, bad, BAD_VALUE);
        }
    }
}
