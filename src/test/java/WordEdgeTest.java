/** Promises 1, 6 to 9 and 21 to 26 at their edges: a test for each boundary that the document names. */
public final class WordEdgeTest implements Answers {
    private static final Checks CHECKS = new Checks();
    private static final Scene FOUR = Scene.laden().word("abcd");
    /** The word a, and each letter is its own image, so that growing it changes nothing. */
    private static final Scene ONE = Scene.laden();
    /** 299 letters a, and with it a letter b behind them: all that there is room for. */
    private static final Scene LAST_IS_B = Scene.hundred().rule("a=aaa;b=aab").grow(1);

    private WordEdgeTest() {
    }

    public static void main(String[] args) {
        newObject();
        start();
        grow();
        growToTheLimit();
        growWhatIsThere();
        growArguments();
        cut();
        derive();
        at();
        pieces();
        piecesOnBothSides();
        piecesArguments();
        balance();
        balanceArguments();
        share();
        run();
        runsOfTheSameExponent();
        mirrored();
        CHECKS.end();
    }

    private static Scene word(String word) {
        return Scene.laden().word(word);
    }

    private static void newObject() {
        Scene fresh = Scene.fresh();
        CHECKS.leaves("promise 1: the word has one letter", fresh, words -> words.count(0), 1);
        CHECKS.leaves("promise 1: the word is a", fresh, words -> words.at(0), 0);
        for (int letter = 0; letter < 4; letter++) {
            int own = letter;
            CHECKS.leaves("promise 1: letter " + own + " is in its image", fresh, words -> words.image(own, 0), own);
            CHECKS.leaves("promise 1: letter " + own + " is all of its image", fresh, words -> words.rule(own, 0), 1);
        }
        CHECKS.leaves("promise 1: no piece is looked for", fresh, words -> words.count(2), 0);
        CHECKS.leaves("promise 1: the history is empty", fresh, words -> words.count(6), 0);
        CHECKS.leaves("promise 1: the text is empty", fresh, words -> words.count(7), 0);
        CHECKS.leaves("promise 1: there is no snapshot", fresh, MorphWords::restore, NONE);
        CHECKS.test("promise 1: an object knows nothing of another one", () -> {
            MorphWords one = Scene.laden().rule("a=bcd").grow(2).piece("b").get();
            CHECKS.due("a new one", Words.state(new MorphWords()), "a;b;c;d a 0");
            CHECKS.due("the first one", Words.state(one), "bcd;b;c;d bcd 1@0");
        });
    }

    private static void start() {
        CHECKS.acts("promise 6: start, the first letter", word("bcd"), words -> words.start(0), 3, "a;b;c;d a 0");
        CHECKS.acts("promise 6: start, the last letter", word("abc"), words -> words.start(3), 3, "a;b;c;d d 0");
        CHECKS.acts("promise 6: start, from a single letter", ONE, words -> words.start(1), 1, "a;b;c;d b 0");
        CHECKS.acts("promise 6: start, the letter with which a word of 2 begins", word("ab"),
            words -> words.start(0), 2, "a;b;c;d a 0");
        CHECKS.acts("promise 6: start, the same letter twice in the word", word("cc"),
            words -> words.start(2), 2, "a;b;c;d c 0");
        CHECKS.acts("promise 6: start, from 300 letters",
            Scene.full(), words -> words.start(0), 300, "aaaaaaaa;b;c;d a 0");
        for (int letter = 0; letter < 4; letter++) {
            int own = letter;
            CHECKS.leaves("promise 6: start, the word is just the letter " + own + " already: NONE",
                word("" + (char) ('a' + own)), words -> words.start(own), NONE);
        }
        for (int bad : Words.outside(0, 3)) {
            CHECKS.leaves("promise 6: start, letter " + bad + ": UNKNOWN", FOUR, words -> words.start(bad), UNKNOWN);
        }
    }

    private static void grow() {
        Scene slow = ONE.rule("a=ab");
        CHECKS.acts("promise 7: grow once, the fewest times", slow, words -> words.grow(1), 2, "ab;b;c;d ab 0");
        CHECKS.acts("promise 7: grow 20 times, the most", slow, words -> words.grow(20), 21,
            "ab;b;c;d a" + "b".repeat(20) + " 0");
        CHECKS.acts("promise 7: grow, a word of one letter to one letter",
            ONE.rule("a=d"), words -> words.grow(1), 1, "d;b;c;d d 0");
        CHECKS.acts("promise 7: grow, only the last letter becomes another",
            word("aaaaab").rule("b=c"), words -> words.grow(1), 6, "a;c;c;d aaaaac 0");
        CHECKS.acts("promise 7: grow, only the length becomes another, by one",
            word("aaab").rule("b=bb"), words -> words.grow(1), 5, "a;bb;c;d aaabb 0");
        Scene circle = word("ab").rule("a=b;b=c;c=a");
        CHECKS.acts("promise 7: grow, not yet round", circle, words -> words.grow(2), 2, "b;c;a;d ca 0");
        CHECKS.leaves("promise 7: grow, the same behind 3 times, though another behind each: NONE",
            circle, words -> words.grow(3), NONE);
        CHECKS.leaves("promise 7: grow, the same behind 18 times: NONE", circle, words -> words.grow(18), NONE);
        CHECKS.leaves("promise 7: grow, each letter as its own image, once: NONE", FOUR, words -> words.grow(1), NONE);
        CHECKS.leaves("promise 7: grow, each letter as its own image, 20 times: NONE",
            FOUR, words -> words.grow(20), NONE);
        CHECKS.leaves("promise 7: grow, only letters that the word has not would grow: NONE",
            word("abab").rule("c=dd;d=ab"), words -> words.grow(20), NONE);
    }

    private static void growToTheLimit() {
        Scene hundred = Scene.hundred();
        grows("to 299 letters", hundred.rule("a=aaa;b=bb"), 1, 299, "abb");
        grows("to 300 letters, the most", hundred.rule("a=aaa;b=bbb"), 1, 300, "bbb");
        grows("to 301 letters, of which the last one goes", hundred.rule("a=aaa;b=bbbc"), 1, 300, "bbb");
        grows("to 305 letters, of which the last five go", hundred.rule("a=aaa;b=bbdccccc"), 1, 300, "bbd");
        grows("to 800 letters, of which 500 go", hundred.rule("a=abcdabbb;b=dddddddd"), 1, 300, "bcd");
        grows("twice, the second time beyond the limit", hundred.rule("a=bbb;b=ac"), 2, 300, "cac");
        grows("300 letters to others, by images of 8", LAST_IS_B.rule("a=cccccccc"), 1, 300, "ccc");
        grows("300 letters, of which the last one alone becomes another", LAST_IS_B.rule("a=a;b=cd"), 1, 300, "aac");
        grows("one letter 20 times by 8", ONE.rule("a=dddddddd;d=cccccccc;c=bbbbbbbb;b=b"), 20, 300, "bbb");
        CHECKS.leaves("promise 7: grow, only what is behind the 300 letters would become another: NONE",
            Scene.full(), words -> words.grow(1), NONE);
        CHECKS.leaves("promise 7: grow, 300 letters, the last image would be longer: NONE",
            LAST_IS_B.rule("a=a;b=bccccccc"), words -> words.grow(20), NONE);
    }

    private static void grows(String name, Scene scene, int times, int length, String end) {
        CHECKS.test("promise 7: grow " + name, () -> {
            CHECKS.act("grow", scene, words -> words.grow(times), length);
            MorphWords words = scene.get();
            words.grow(times);
            CHECKS.due("the length", words.count(0), length);
            for (int fromEnd = 1; fromEnd <= 3; fromEnd++) {
                int letter = end.charAt(3 - fromEnd) - 'a';
                CHECKS.due("letter " + fromEnd + " from the end", words.at(length - fromEnd), letter);
            }
            CHECKS.due("behind the end", words.at(length), UNKNOWN);
        });
    }

    /** The word that is grown is the one that is there, not one that another act left behind. */
    private static void growWhatIsThere() {
        Scene grown = word("abc").rule("a=ab;b=c;c=a").grow(1);
        CHECKS.acts("promise 7: grow, behind a word that was undone",
            grown.then(MorphWords::undo), words -> words.grow(1), 4, "ab;c;a;d abca 0");
        CHECKS.acts("promise 7: grow, behind a word that was restored",
            grown.then(MorphWords::keep).then(words -> words.start(3)).then(MorphWords::restore),
            words -> words.grow(1), 6, "ab;c;a;d abcaab 0");
        CHECKS.acts("promise 7: grow, behind letters that were exchanged",
            grown.then(words -> words.swap(0, 3)), words -> words.grow(1), 6, "a;c;d;db dbcddb 0");
        CHECKS.acts("promise 7: grow, behind a cut that was refused",
            grown.then(words -> words.cut(5)), words -> words.grow(1), 6, "ab;c;a;d abcaab 0");
        CHECKS.acts("promise 7: grow, behind a start that was NONE",
            word("b").rule("b=ca").then(words -> words.start(1)), words -> words.grow(2), 2, "a;ca;c;d ca 0");
    }

    private static void growArguments() {
        for (int bad : Words.outside(1, 20)) {
            CHECKS.leaves("promise 7: grow, times " + bad + ": BAD_VALUE",
                ONE.rule("a=ab"), words -> words.grow(bad), BAD_VALUE);
            CHECKS.leaves("promise 7: grow, times " + bad + " and the word would stay: BAD_VALUE goes ahead of NONE",
                FOUR, words -> words.grow(bad), BAD_VALUE);
        }
    }

    private static void cut() {
        CHECKS.acts("promise 8: cut to 1 letter, the fewest", FOUR, words -> words.cut(1), 3, "a;b;c;d a 0");
        CHECKS.acts("promise 8: cut to one letter less", FOUR, words -> words.cut(3), 1, "a;b;c;d abc 0");
        CHECKS.leaves("promise 8: cut to the length of the word: NONE", FOUR, words -> words.cut(4), NONE);
        CHECKS.leaves("promise 8: cut a word of one letter to 1: NONE", ONE, words -> words.cut(1), NONE);
        CHECKS.leaves("promise 8: cut a word of one letter to 2: BAD_VALUE", ONE, words -> words.cut(2), BAD_VALUE);
        CHECKS.leaves("promise 8: cut 300 letters to 300: NONE", Scene.full(), words -> words.cut(300), NONE);
        CHECKS.acts("promise 8: cut 300 letters to 299", Scene.full(), words -> words.cut(299), 1);
        CHECKS.acts("promise 8: cut 300 letters to 1", Scene.full(), words -> words.cut(1), 299, "aaaaaaaa;b;c;d a 0");
        CHECKS.leaves("promise 8: cut 300 letters to 301: BAD_VALUE", Scene.full(), words -> words.cut(301), BAD_VALUE);
        for (int bad : Words.outside(1, 4)) {
            CHECKS.leaves("promise 8: cut to " + bad + ": BAD_VALUE", FOUR, words -> words.cut(bad), BAD_VALUE);
        }
        CHECKS.acts("promise 8: cut, behind a start that was undone",
            FOUR.then(words -> words.start(3)).then(MorphWords::undo), words -> words.cut(2), 2, "a;b;c;d ab 0");
        CHECKS.acts("promise 8: cut, behind a start and a word that was restored",
            FOUR.then(MorphWords::keep).then(words -> words.start(3)).then(MorphWords::restore),
            words -> words.cut(3), 1, "a;b;c;d abc 0");
        CHECKS.acts("promise 8: cut, behind letters that were exchanged",
            FOUR.then(words -> words.swap(0, 3)), words -> words.cut(2), 2, "a;b;c;d db 0");
        CHECKS.test("promise 8: cut, the letters that went do not come again", () -> {
            MorphWords words = FOUR.get();
            words.cut(2);
            CHECKS.due("the first one that went", words.at(2), UNKNOWN);
            CHECKS.due("cut to what was", words.cut(4), BAD_VALUE);
            CHECKS.due("cut to one more", words.cut(3), BAD_VALUE);
        });
    }

    private static void derives(String name, String word, String piece, String row) {
        StringBuilder places = new StringBuilder();
        for (int place = row.indexOf(piece); place >= 0; place = row.indexOf(piece, place + 1)) {
            places.append('@').append(place);
        }
        CHECKS.acts("promise 9: derive, " + name, word(word).piece(piece), MorphWords::derive, row.length(),
            "a;b;c;d " + row + " " + piece.length() + places);
    }

    private static void isNotDerived(String name, Scene scene) {
        CHECKS.leaves("promise 9: derive, " + name + ": NOT_POSSIBLE", scene, MorphWords::derive, NOT_POSSIBLE);
    }

    private static void derive() {
        derives("the piece comes twice, the fewest times", "abab", "ab", "a");
        derives("the row is one letter shorter than the word, the longest", "ccc", "c", "aa");
        derives("the piece overlaps itself", "aaaa", "aa", "aa");
        derives("returns that are shorter than the piece", "ababab", "abab", "a");
        derives("1 return, though the word begins with other letters", "cddad", "d", "ab");
        derives("4 different returns, the most, each once", "bbabcbdb", "b", "abcd");
        derives("4 different returns, each twice", "ccacbcdccacbcdc", "c", "abcdabcd");
        isNotDerived("5 different returns", word("aabacadabba").piece("a"));
        isNotDerived("5 different returns, the fifth behind some others", word("aabacadaaabaabba").piece("a"));
        isNotDerived("6 different returns", word("aabacadabbabca").piece("a"));
        isNotDerived("no piece is looked for", word("abab"));
        isNotDerived("no piece is looked for, a new object", Scene.fresh());
        isNotDerived("the piece does not come", word("abab").piece("c"));
        isNotDerived("the piece comes once", word("abab").piece("bab"));
        isNotDerived("the piece is the whole word", word("abab").piece("abab"));
        isNotDerived("the piece is longer than the word", word("ab").piece("aba"));
        isNotDerived("the word has one letter, the piece", ONE.piece("a"));
        CHECKS.acts("promise 9: derive, 299 letters from 300", Scene.full().piece("a"), MorphWords::derive, 299);
        CHECKS.acts("promise 9: derive, 280 letters from 300 with a piece of 20",
            Scene.full().piece("a".repeat(20)), MorphWords::derive, 280);
    }

    private static void at() {
        CHECKS.leaves("promise 21: at, the first place", FOUR, words -> words.at(0), 0);
        CHECKS.leaves("promise 21: at, the last place", FOUR, words -> words.at(3), 3);
        CHECKS.leaves("promise 21: at, the only place", ONE, words -> words.at(0), 0);
        CHECKS.leaves("promise 21: at, behind the only place", ONE, words -> words.at(1), UNKNOWN);
        CHECKS.leaves("promise 21: at, the last place of 300", LAST_IS_B, words -> words.at(299), 1);
        CHECKS.leaves("promise 21: at, behind the last place of 300", LAST_IS_B, words -> words.at(300), UNKNOWN);
        for (int bad : Words.outside(0, 3)) {
            CHECKS.leaves("promise 21: at, place " + bad, FOUR, words -> words.at(bad), UNKNOWN);
        }
        CHECKS.leaves("promise 21: at, a place that only a longer word had",
            FOUR.then(words -> words.start(2)), words -> words.at(1), UNKNOWN);
    }

    /** What is told of the pieces of a length: how many, going on, being behind in several ways, mirrored. */
    private static void piecesOf(String name, Scene scene, int length, int... due) {
        for (int what = 0; what < due.length; what++) {
            int asked = what;
            CHECKS.leaves("promise 22: pieces, what " + what + ", " + name, scene,
                words -> words.pieces(length, asked), due[what]);
        }
    }

    private static void pieces() {
        String mirror = "abcdabcdabbadcbadcba";
        piecesOf("of 1 letter, the fewest, of a word of one letter", ONE, 1, 1, 0, 0, 1);
        piecesOf("longer than a word of one letter", ONE, 2, 0, 0, 0, 0);
        piecesOf("of 20 letters, longer than a word of one letter", ONE, 20, 0, 0, 0, 0);
        piecesOf("of 1 letter, all four", FOUR, 1, 4, 0, 0, 4);
        piecesOf("the whole word", FOUR, 4, 1, 0, 0, 0);
        piecesOf("one letter longer than the word", FOUR, 5, 0, 0, 0, 0);
        piecesOf("of 20 letters, the most, the whole word, mirrored", word(mirror), 20, 1, 0, 0, 1);
        piecesOf("of 20 letters, longer by one than the word", word(mirror.substring(1)), 20, 0, 0, 0, 0);
        piecesOf("of 20 letters, mirrored but for the middle", word("aaaaaaaaabcaaaaaaaaa"), 20, 1, 0, 0, 0);
        piecesOf("of 20 letters, mirrored but for the ends", word("b" + "a".repeat(19)), 20, 1, 0, 0, 0);
        piecesOf("of 19 letters, mirrored about a letter", word("abcdabcdacadcbadcba"), 19, 1, 0, 0, 1);
        piecesOf("of 20 letters, other at the first letter only", word("b" + "a".repeat(20)), 20, 2, 0, 0, 1);
        piecesOf("of 20 letters, other at the last letter only", word("a".repeat(20) + "b"), 20, 2, 0, 0, 1);
        piecesOf("of 20 letters, the same at 281 places", Scene.full(), 20, 1, 0, 0, 1);
        piecesOf("of 20 letters, at the end of 300", LAST_IS_B, 20, 2, 1, 0, 1);
        piecesOf("that overlap themselves", word("aaaa"), 2, 1, 0, 0, 1);
        piecesOf("of 2 letters, mirrored if both are the same", word("aabbab"), 2, 4, 0, 1, 2);
    }

    private static void piecesOnBothSides() {
        piecesOf("followed by one letter and by the end: not by two", word("aba"), 1, 2, 0, 0, 2);
        piecesOf("followed by the same letter at two places: not by two", word("abab"), 1, 2, 0, 0, 2);
        piecesOf("followed by two letters", word("aab"), 1, 2, 1, 0, 2);
        piecesOf("followed by three letters: one piece", word("abacad"), 1, 4, 1, 1, 4);
        piecesOf("behind one letter and at the beginning: not behind two", word("bab"), 1, 2, 0, 0, 2);
        piecesOf("behind two letters", word("baa"), 1, 2, 0, 1, 2);
        piecesOf("behind three letters: one piece", word("badaca"), 1, 4, 1, 1, 4);
        piecesOf("followed by two letters, the second one at the end of the word", word("abcabd"), 2, 4, 1, 0, 0);
        piecesOf("behind two letters, the first one at the beginning of the word", word("cabdab"), 2, 4, 0, 1, 0);
        piecesOf("two of them followed by two letters", word("aabba"), 1, 2, 2, 2, 2);
        piecesOf("of 20 letters, followed by two letters", word("a".repeat(21) + "b"), 20, 2, 1, 0, 1);
        piecesOf("of 20 letters, behind two letters", word("b" + "a".repeat(21)), 20, 2, 0, 1, 1);
    }

    private static void piecesArguments() {
        for (int bad : Words.outside(1, 20)) {
            CHECKS.leaves("promise 22: pieces, length " + bad, FOUR, words -> words.pieces(bad, 0), BAD_VALUE);
            CHECKS.leaves("promise 22: pieces, length " + bad + " and what 3",
                Scene.full(), words -> words.pieces(bad, 3), BAD_VALUE);
        }
        for (int bad : Words.outside(0, 3)) {
            CHECKS.leaves("promise 22: pieces, what " + bad, FOUR, words -> words.pieces(1, bad), BAD_VALUE);
            CHECKS.leaves("promise 22: pieces, what " + bad + " and a word that is shorter",
                FOUR, words -> words.pieces(20, bad), BAD_VALUE);
            CHECKS.leaves("promise 22: pieces, length and what " + bad, FOUR, words -> words.pieces(bad, bad),
                BAD_VALUE);
        }
    }

    private static void balanceOf(String name, Scene scene, int letter, int length, int want) {
        CHECKS.leaves("promise 23: balance, " + name, scene, words -> words.balance(letter, length), want);
    }

    private static void balance() {
        balanceOf("length 1, the least, a letter at some places", FOUR, 0, 1, 1);
        balanceOf("length 1, the letter at the last place", FOUR, 3, 1, 1);
        balanceOf("length 1, a letter that does not come", word("abc"), 3, 1, 0);
        balanceOf("length 1, a letter that is everywhere", word("ccc"), 2, 1, 0);
        balanceOf("all of the word", FOUR, 0, 4, 0);
        balanceOf("all but one letter of the word, the first one", FOUR, 0, 3, 1);
        balanceOf("all but one letter of the word, the last one", FOUR, 3, 3, 1);
        balanceOf("one letter longer than the word: NONE", FOUR, 0, 5, NONE);
        balanceOf("300, the most, and a shorter word: NONE", FOUR, 0, 300, NONE);
        balanceOf("a word of one letter, length 1", ONE, 0, 1, 0);
        balanceOf("a word of one letter, length 2: NONE", ONE, 0, 2, NONE);
        balanceOf("all times against none", word("aaabbb"), 0, 3, 3);
        balanceOf("the most in the middle", word("cbabbac"), 1, 2, 2);
        balanceOf("the least in the middle", word("bbcacbb"), 1, 3, 2);
        balanceOf("300 letters, length 299", LAST_IS_B, 1, 299, 1);
        balanceOf("300 letters, length 300, the most", LAST_IS_B, 1, 300, 0);
        balanceOf("299 letters, length 300: NONE", LAST_IS_B.then(words -> words.cut(299)), 1, 300, NONE);
        balanceOf("299 letters, length 299", LAST_IS_B.then(words -> words.cut(299)), 1, 299, 0);
    }

    private static void balanceArguments() {
        for (int bad : Words.outside(0, 3)) {
            balanceOf("letter " + bad + ": UNKNOWN", FOUR, bad, 1, UNKNOWN);
            balanceOf("letter " + bad + " and length 301: UNKNOWN goes ahead of BAD_VALUE", FOUR, bad, 301, UNKNOWN);
            balanceOf("letter " + bad + " and length 5 of 4: UNKNOWN goes ahead of NONE", FOUR, bad, 5, UNKNOWN);
        }
        for (int bad : Words.outside(1, 300)) {
            balanceOf("length " + bad + " and a shorter word: BAD_VALUE goes ahead of NONE", FOUR, 0, bad, BAD_VALUE);
            balanceOf("length " + bad + " and 300 letters: BAD_VALUE", LAST_IS_B, 0, bad, BAD_VALUE);
        }
    }

    private static void shareOf(String name, Scene scene, int letter, int upper, int lower) {
        CHECKS.leaves("promise 24: share, upper, " + name, scene, words -> words.share(letter, 0), upper);
        CHECKS.leaves("promise 24: share, lower, " + name, scene, words -> words.share(letter, 1), lower);
    }

    private static void share() {
        shareOf("a letter that does not come: 0 / 1", word("abab"), 3, 0, 1);
        shareOf("a letter that 300 letters do not have: 0 / 1", Scene.full(), 1, 0, 1);
        shareOf("the only letter of a word of one letter: 1 / 1", ONE, 0, 1, 1);
        shareOf("another letter than the only one: 0 / 1", ONE, 1, 0, 1);
        shareOf("a letter that is everywhere: 1 / 1", word("dddd"), 3, 1, 1);
        shareOf("all 300 letters: 1 / 1", Scene.full(), 0, 1, 1);
        shareOf("one of 300 letters", LAST_IS_B, 1, 1, 300);
        shareOf("299 of 300 letters", LAST_IS_B, 0, 299, 300);
        shareOf("in lowest terms already", word("ababa"), 1, 2, 5);
        shareOf("in lowest terms by 2", word("abab"), 1, 1, 2);
        shareOf("in lowest terms by 6", word("aaaaaaaaaaaabbbbbb"), 0, 2, 3);
        for (int bad : Words.outside(0, 3)) {
            CHECKS.leaves("promise 24: share, letter " + bad, FOUR, words -> words.share(bad, 0), UNKNOWN);
            CHECKS.leaves("promise 24: share, letter and what " + bad + ": UNKNOWN goes ahead of BAD_VALUE",
                FOUR, words -> words.share(bad, bad), UNKNOWN);
        }
        for (int bad : Words.outside(0, 1)) {
            CHECKS.leaves("promise 24: share, what " + bad, FOUR, words -> words.share(0, bad), BAD_VALUE);
            CHECKS.leaves("promise 24: share, what " + bad + " and a letter that does not come",
                ONE, words -> words.share(3, bad), BAD_VALUE);
        }
    }

    /** The greatest run: its period, first place, length, and both numbers of its exponent. */
    private static void runOf(String name, Scene scene, int... due) {
        CHECKS.test("promise 25: run, " + name, () -> {
            for (int what = 0; what < due.length; what++) {
                int asked = what;
                CHECKS.idle("run(" + what + ")", scene, words -> words.run(asked), due[what]);
            }
        });
    }

    private static void run() {
        runOf("a word of one letter", ONE, 1, 0, 1, 1, 1);
        runOf("two letters, the same", word("bb"), 1, 0, 2, 2, 1);
        runOf("two letters, not the same", word("ab"), 1, 0, 1, 1, 1);
        runOf("no letter comes again: the first one, with the least period", FOUR, 1, 0, 1, 1, 1);
        runOf("a letter comes again at the end of the word: below 2", word("abcda"), 4, 0, 5, 5, 4);
        runOf("a period that is more than half of the word", word("abcab"), 3, 0, 5, 5, 3);
        runOf("a run from the first place to the last one", word("abcabcabca"), 3, 0, 10, 10, 3);
        runOf("a run that begins behind the first place", word("cabababa"), 2, 1, 7, 7, 2);
        runOf("a run that ends ahead of the last place", word("abababac"), 2, 0, 7, 7, 2);
        runOf("a run at the end", word("abcddd"), 1, 3, 3, 3, 1);
        runOf("a greater exponent behind a lesser one", word("aabbb"), 1, 2, 3, 3, 1);
        runOf("a lesser exponent behind a greater one", word("aaabb"), 1, 0, 3, 3, 1);
        runOf("a greater exponent with a greater period", word("ccababa"), 2, 2, 5, 5, 2);
        runOf("a greater length with a lesser exponent", word("abcdabcaa"), 1, 7, 2, 2, 1);
        runOf("an exponent in lowest terms, a whole number", word("abcabcabc"), 3, 0, 9, 3, 1);
        runOf("an exponent in lowest terms, a fraction", word("abcdab"), 4, 0, 6, 3, 2);
        runOf("300 letters, all the same", Scene.full(), 1, 0, 300, 300, 1);
        runOf("300 letters, all the same but the last one", LAST_IS_B, 1, 0, 299, 299, 1);
        for (int bad : Words.outside(0, 4)) {
            CHECKS.leaves("promise 25: run, what " + bad, FOUR, words -> words.run(bad), BAD_VALUE);
        }
    }

    private static void runsOfTheSameExponent() {
        runOf("of the same exponent, 2: the least period, though it comes later", word("ababcc"), 1, 4, 2, 2, 1);
        runOf("of the same exponent, 2: the least period, which comes first", word("ccabab"), 1, 0, 2, 2, 1);
        runOf("of the same exponent, 3 / 2: the least period, though it comes later",
            word("abcdabdcd"), 2, 6, 3, 3, 2);
        runOf("of the same exponent and period, 2: the first one", word("abbacc"), 1, 1, 2, 2, 1);
        runOf("of the same exponent and period, 3 / 2: the first one", word("dabacdc"), 2, 1, 3, 3, 2);
        runOf("of the same exponent and period, 4 / 1: the first one", word("aaaabbbb"), 1, 0, 4, 4, 1);
        runOf("a period that is twice another one of the same run", word("abababab"), 2, 0, 8, 4, 1);
    }

    private static void mirroredOf(String name, Scene scene, int place, int length) {
        CHECKS.leaves("promise 26: mirrored, the place, " + name, scene, words -> words.mirrored(0), place);
        CHECKS.leaves("promise 26: mirrored, the length, " + name, scene, words -> words.mirrored(1), length);
    }

    private static void mirrored() {
        mirroredOf("a word of one letter", ONE, 0, 1);
        mirroredOf("two letters, the same", word("cc"), 0, 2);
        mirroredOf("two letters, not the same", word("ab"), 0, 1);
        mirroredOf("no more than a letter: the first one", FOUR, 0, 1);
        mirroredOf("the whole word, of an even length", word("abccba"), 0, 6);
        mirroredOf("the whole word, of an odd length", word("abcdcba"), 0, 7);
        mirroredOf("at the end, of an even length", word("cdabba"), 2, 4);
        mirroredOf("at the end, of an odd length", word("ddcaba"), 3, 3);
        mirroredOf("several of an odd length: the first one", word("abacdc"), 0, 3);
        mirroredOf("several of an even length: the first one", word("daabbcc"), 1, 2);
        mirroredOf("several that overlap: the first one", word("cababd"), 1, 3);
        mirroredOf("an even length, longer by one than an odd one", word("abacddc"), 3, 4);
        mirroredOf("an odd length, longer by one than an even one", word("aabab"), 1, 3);
        mirroredOf("300 letters, all of them", Scene.full(), 0, 300);
        mirroredOf("300 letters, all but the last one", LAST_IS_B, 0, 299);
        for (int bad : Words.outside(0, 1)) {
            CHECKS.leaves("promise 26: mirrored, what " + bad, FOUR, words -> words.mirrored(bad), BAD_VALUE);
        }
    }
}
