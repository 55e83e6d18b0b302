import java.util.function.Supplier;

/** Promises 1, 6 to 9 and 21 to 26 for ordinary inputs: the word as it is made, grown, cut, derived and told. */
public final class WordTest {
    private static final Checks CHECKS = new Checks();

    private WordTest() {
    }

    public static void main(String[] args) {
        CHECKS.test("promise 1: a new object", WordTest::newObject);
        CHECKS.test("promise 6: start", WordTest::start);
        CHECKS.test("promise 7: grow", WordTest::grow);
        CHECKS.test("promise 7: grow, the first 300 letters", WordTest::growFar);
        CHECKS.test("promise 8: cut", WordTest::cut);
        CHECKS.test("promise 9: derive", WordTest::derive);
        CHECKS.test("promise 21: at", WordTest::at);
        CHECKS.test("promise 22: pieces", WordTest::pieces);
        CHECKS.test("promise 22: pieces, long ones", WordTest::longPieces);
        CHECKS.test("promise 23: balance", WordTest::balance);
        CHECKS.test("promise 24: share", WordTest::share);
        CHECKS.test("promise 25: run", WordTest::run);
        CHECKS.test("promise 26: mirrored", WordTest::mirrored);
        CHECKS.test("promises 22 to 26: another word behind the first one", WordTest::otherWord);
        CHECKS.end();
    }

    private static Supplier<MorphWords> word(String word) {
        return () -> Words.withWord(word);
    }

    /** An object whose word has all 300 letters that there is room for, by a rule that goes on. */
    private static MorphWords longWord(String rule) {
        MorphWords words = Words.withRule(rule);
        words.grow(20);
        return words;
    }

    private static void newObject() {
        MorphWords words = new MorphWords();
        CHECKS.due("the word", Words.word(words), "a");
        CHECKS.due("the rule", Words.rule(words), "a;b;c;d");
        CHECKS.due("length of the piece", words.count(2), 0);
        CHECKS.due("how often it comes", words.count(3), -5);
        CHECKS.due("letters of all images", words.count(5), 4);
        CHECKS.due("states in the history", words.count(6), 0);
        CHECKS.due("length of the text", words.count(7), 0);
        CHECKS.due("no snapshot", words.restore(), -5);
        CHECKS.due("nothing to undo", words.undo(), -5);
        CHECKS.due("no piece to look for", words.derive(), -4);
        MorphWords one = new MorphWords();
        one.start(3);
        Words.read(one, "a=bb");
        CHECKS.due("no other object's word", words.at(0), 0);
        CHECKS.due("no other object's rule", words.rule(0, 0), 1);
    }

    private static void start() {
        CHECKS.act("from 10 letters", word("abcdabcdab"), words -> words.start(2), 10);
        CHECKS.act("from another letter", MorphWords::new, words -> words.start(3), 1);
        CHECKS.act("to the first letter of more", word("ab"), words -> words.start(0), 2);
        MorphWords words = Words.withWord("abcd");
        String rule = Words.rule(words);
        words.start(2);
        CHECKS.due("the word", Words.word(words), "c");
        CHECKS.due("the rule stays", Words.rule(words), rule);
    }

    private static void grow() {
        Supplier<MorphWords> fibonacci = () -> Words.withRule("a=ab;b=a");
        CHECKS.act("once", fibonacci, words -> words.grow(1), 2);
        CHECKS.act("five times", fibonacci, words -> words.grow(5), 13);
        Supplier<MorphWords> circle = () -> Words.withRule("a=b;b=c;c=a");
        CHECKS.act("another letter", circle, words -> words.grow(20), 1);
        MorphWords words = fibonacci.get();
        words.grow(4);
        CHECKS.due("the word", Words.word(words), "abaababa");
        words.grow(1);
        CHECKS.due("the word then", Words.word(words), "abaababaabaab");
    }

    private static void growFar() {
        MorphWords words = longWord("a=abc;b=c;c=ad");
        CHECKS.due("the length", words.count(0), 300);
        CHECKS.due("the last letter is there", words.at(299) >= 0 ? 1 : 0, 1);
        CHECKS.due("no letter behind it", words.at(300), -1);
        CHECKS.due("it begins with its image, so it stays", words.grow(1), -5);
        CHECKS.due("nothing is recorded", words.count(6), 2);
        MorphWords far = Words.withRule("a=aaaaaaab;b=b");
        CHECKS.due("257 letters and more", far.grow(3), 300);
        CHECKS.due("the letters at the end", far.at(299) * 2 + far.at(298), plainFar());
        MorphWords slow = Words.withRule("a=aa");
        CHECKS.due("256 letters", slow.grow(8), 256);
        CHECKS.due("300 letters", slow.grow(1), 300);
        MorphWords turns = Words.withRule("a=bbbbbbbb;b=aaaaaaaa");
        CHECKS.due("all b", turns.grow(3), 300);
        CHECKS.due("all a", turns.grow(1), 300);
        CHECKS.due("the letters then", turns.count(1), 1);
        CHECKS.due("twice is back", turns.grow(2), -5);
    }

    private static int plainFar() {
        String word = "a";
        for (int time = 0; time < 3; time++) {
            word = word.replace("a", "aaaaaaab");
        }
        return (word.charAt(299) - 'a') * 2 + word.charAt(298) - 'a';
    }

    private static void cut() {
        CHECKS.act("to four", word("abcdabcdab"), words -> words.cut(4), 6);
        CHECKS.act("to one", word("abcdabcdab"), words -> words.cut(1), 9);
        MorphWords words = Words.withWord("abcdabcdab");
        words.cut(6);
        CHECKS.due("the word", Words.word(words), "abcdab");
        MorphWords full = longWord("a=ab;b=ba");
        CHECKS.due("none of 300", full.cut(300), -5);
        CHECKS.due("one of 300", full.cut(299), 1);
        CHECKS.due("no longer of 300", full.cut(300), -2);
    }

    private static void derive() {
        Supplier<MorphWords> fibonacci = () -> Words.withPiece("abaababaabaab", "aba");
        CHECKS.act("two returns", fibonacci, MorphWords::derive, 3);
        MorphWords words = fibonacci.get();
        words.derive();
        CHECKS.due("the word", Words.word(words), "aba");
        CHECKS.due("the piece is looked for still", words.comes(0), 0);
        Supplier<MorphWords> four = () -> Words.withPiece("abacadaabacada", "a");
        CHECKS.act("four returns", four, MorphWords::derive, 7);
        MorphWords derived = four.get();
        derived.derive();
        CHECKS.due("the word of four letters", Words.word(derived), "abcdabc");
        CHECKS.act("a piece that comes twice", () -> Words.withPiece("abab", "ab"), MorphWords::derive, 1);
        CHECKS.act("pieces that overlap", () -> Words.withPiece("ababa", "aba"), MorphWords::derive, 1);
    }

    private static void at() {
        MorphWords words = Words.withWord("abcdd");
        int[] due = {0, 1, 2, 3, 3};
        for (int place = 0; place < due.length; place++) {
            CHECKS.due("at(" + place + ")", words.at(place), due[place]);
        }
        words.cut(2);
        CHECKS.due("a letter that was cut", words.at(2), -1);
    }

    private static void pieces() {
        // abaababaabaab: of two letters ab, ba, aa; of three aba, baa, aab, bab.
        int[][] due = {{2, 1, 1, 2}, {3, 1, 1, 1}, {4, 1, 1, 2}};
        MorphWords words = Words.withWord("abaababaabaab");
        for (int length = 1; length <= due.length; length++) {
            for (int what = 0; what < 4; what++) {
                String call = "pieces(" + length + ", " + what + ")";
                CHECKS.due(call, words.pieces(length, what), due[length - 1][what]);
            }
        }
        MorphWords ways = Words.withWord("abacad");
        CHECKS.due("one goes on in three ways", ways.pieces(1, 1), 1);
        CHECKS.due("one is behind two letters", ways.pieces(1, 2), 1);
        CHECKS.due("none goes on in two ways", ways.pieces(2, 1), 0);
        MorphWords ends = Words.withWord("abb");
        CHECKS.due("the end is no letter that follows", ends.pieces(1, 1), 0);
        CHECKS.due("b is behind a and b", ends.pieces(1, 2), 1);
        MorphWords starts = Words.withWord("aab");
        CHECKS.due("the beginning is no letter ahead", starts.pieces(1, 2), 0);
        CHECKS.due("a is ahead of a and b", starts.pieces(1, 1), 1);
        MorphWords same = Words.withWord("ababab");
        CHECKS.due("the same letter at several places", same.pieces(1, 1), 0);
        CHECKS.due("the whole word", same.pieces(6, 0), 1);
        CHECKS.due("the whole word is not followed", same.pieces(6, 1), 0);
        CHECKS.due("longer than the word", same.pieces(7, 0), 0);
        CHECKS.due("longer than the word, mirrored", same.pieces(7, 3), 0);
    }

    private static void longPieces() {
        MorphWords words = longWord("a=ab;b=ba");
        CHECKS.due("of 20 letters", words.pieces(20, 0), 60);
        MorphWords sturm = longWord("a=ab;b=a");
        for (int length = 1; length <= 20; length++) {
            CHECKS.due("so balanced a word has one more", sturm.pieces(length, 0), length + 1);
            CHECKS.due("and one that goes on in two ways", sturm.pieces(length, 1), 1);
            CHECKS.due("and one that is behind two letters", sturm.pieces(length, 2), 1);
            CHECKS.due("mirrored ones", sturm.pieces(length, 3), 1 + length % 2);
        }
        MorphWords ends = Words.withWord("abbbbbbbbbbbbbbbbbbbcbbb");
        CHECKS.due("they differ in the first letter only", ends.pieces(20, 0), 5);
    }

    private static void balance() {
        MorphWords words = Words.withWord("aabbbaccaa");
        CHECKS.due("a, 1", words.balance(0, 1), 1);
        CHECKS.due("a, 2", words.balance(0, 2), 2);
        CHECKS.due("a, 3", words.balance(0, 3), 2);
        CHECKS.due("b, 3", words.balance(1, 3), 3);
        CHECKS.due("b, 9", words.balance(1, 9), 0);
        CHECKS.due("a, 9", words.balance(0, 9), 0);
        CHECKS.due("c, 8", words.balance(2, 8), 0);
        CHECKS.due("c, 7", words.balance(2, 7), 1);
        CHECKS.due("all of it", words.balance(0, 10), 0);
        CHECKS.due("a letter that does not come", words.balance(3, 4), 0);
        CHECKS.due("a single letter", new MorphWords().balance(0, 1), 0);
        CHECKS.due("the same letter all over", Words.withWord("aaaa").balance(0, 2), 0);
        MorphWords full = longWord("a=ab;b=a");
        CHECKS.due("so balanced a word", full.balance(0, 150), 1);
        CHECKS.due("all 300", full.balance(0, 300), 0);
    }

    private static void share() {
        MorphWords words = Words.withWord("aabbbaccaaaa");
        int[][] due = {{7, 12}, {1, 4}, {1, 6}, {0, 1}};
        for (int letter = 0; letter < 4; letter++) {
            for (int what = 0; what < 2; what++) {
                CHECKS.due("share(" + letter + ", " + what + ")", words.share(letter, what), due[letter][what]);
            }
        }
        MorphWords all = Words.withWord("bbbb");
        CHECKS.due("all of it, upper", all.share(1, 0), 1);
        CHECKS.due("all of it, lower", all.share(1, 1), 1);
        MorphWords full = longWord("a=ab;b=ba");
        CHECKS.due("half of 300, upper", full.share(0, 0), 1);
        CHECKS.due("half of 300, lower", full.share(0, 1), 2);
    }

    private static void run() {
        runOf("a", 1, 0, 1, 1, 1);
        runOf("abcd", 1, 0, 1, 1, 1);
        runOf("abca", 3, 0, 4, 4, 3);
        runOf("aab", 1, 0, 2, 2, 1);
        runOf("baab", 1, 1, 2, 2, 1);
        runOf("aabb", 1, 0, 2, 2, 1);
        runOf("abaababaabaababaababa", 3, 5, 9, 3, 1);
        runOf("cababab", 2, 1, 6, 3, 1);
        runOf("cabababa", 2, 1, 7, 7, 2);
        runOf("abab", 2, 0, 4, 2, 1);
        runOf("ababb", 1, 3, 2, 2, 1);
        runOf("abcdabcb", 4, 0, 7, 7, 4);
        runOf("abacdbdc", 2, 0, 3, 3, 2);
        runOf("abacab", 2, 0, 3, 3, 2);
        runOf("abcabcabaa", 3, 0, 8, 8, 3);
        MorphWords full = Words.withRule("a=aaaaaaaa");
        full.grow(20);
        CHECKS.due("300 of a letter, period", full.run(0), 1);
        CHECKS.due("300 of a letter, upper", full.run(3), 300);
        CHECKS.due("300 of a letter, lower", full.run(4), 1);
    }

    private static void runOf(String word, int... due) {
        MorphWords words = Words.withWord(word);
        for (int what = 0; what < due.length; what++) {
            CHECKS.due("run(" + what + ") of " + word, words.run(what), due[what]);
        }
    }

    private static void mirrored() {
        mirroredOf("a", 0, 1);
        mirroredOf("abcd", 0, 1);
        mirroredOf("abb", 1, 2);
        mirroredOf("cabba", 1, 4);
        mirroredOf("cabcbad", 1, 5);
        mirroredOf("aabaa", 0, 5);
        mirroredOf("abacdc", 0, 3);
        mirroredOf("abccba", 0, 6);
        mirroredOf("dabacbcad", 3, 5);
        mirroredOf("dabadcbcd", 0, 5);
        mirroredOf("abcaab", 3, 2);
        MorphWords full = Words.withRule("a=aaaaaaaa");
        full.grow(20);
        CHECKS.due("300 of a letter, place", full.mirrored(0), 0);
        CHECKS.due("300 of a letter, length", full.mirrored(1), 300);
    }

    private static void mirroredOf(String word, int place, int length) {
        MorphWords words = Words.withWord(word);
        CHECKS.due("mirrored(0) of " + word, words.mirrored(0), place);
        CHECKS.due("mirrored(1) of " + word, words.mirrored(1), length);
    }

    /** What was told of a longer word must not come into what is told of a shorter one. */
    private static void otherWord() {
        MorphWords words = Words.withRule("a=bcccc;b=cacab");
        words.grow(1);
        CHECKS.due("of bcccc", told(words), "2, 1, 1, 4, 1, 4");
        words.cut(1);
        CHECKS.due("of b", told(words), "1, 1, 0, 1, 0, 1");
        words.grow(1);
        CHECKS.due("of cacab", told(words), "3, 2, 0, 2, 0, 3");
        words.start(3);
        CHECKS.due("of d", told(words), "1, 1, 0, 1, 0, 1");
    }

    private static String told(MorphWords words) {
        return words.pieces(1, 0) + ", " + words.run(0) + ", " + words.run(1) + ", " + words.run(3)
            + ", " + words.mirrored(0) + ", " + words.mirrored(1);
    }
}
