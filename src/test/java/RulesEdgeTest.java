import java.util.function.ToIntFunction;

/** Promises 2 to 5 and 16 to 20 at their edges: a test for each boundary that the document names. */
public final class RulesEdgeTest implements Answers {
    private static final Checks CHECKS = new Checks();
    /** An object with a rule of which no letter has itself as its image. */
    private static final Scene RULED = Scene.laden().rule("a=cb;b=ad;c=bda;d=aaaaaaab");
    /** Rules whose images are just not too long, and just too long, to be counted. */
    private static final Scene MILLION = Scene.laden().rule("a=cbdbbddb;b=adcbabbb;c=bacadab;d=bbaa");
    private static final Scene MILLION_AND_ONE = Scene.laden().rule("a=cadbbab;b=abbcbb;c=dabb;d=ddcbcb");
    private static final Scene FASTEST = Scene.laden().rule("a=aaaaaaaa;b=aaaaaaaa;c=aaaaaaaa;d=aaaaaaaa");

    private RulesEdgeTest() {
    }

    public static void main(String[] args) {
        textsOfRules();
        repeatedParts();
        textsThatEndTooEarly();
        charactersThatAreNotAllowed();
        rulesThatAreSoAlready();
        square();
        shift();
        shiftWithOneLetterThatDiffers();
        changesWhatIsThere();
        swap();
        swapArguments();
        image();
        rule();
        reached();
        lengthBehind();
        lengthBehindArguments();
        countBehind();
        countBehindArguments();
        mixing();
        CHECKS.end();
    }

    private static Scene ruled(String rule) {
        return Scene.laden().rule(rule);
    }

    private static String letter(int number) {
        return "" + (char) ('a' + number);
    }

    private static void reads(String name, String text, int parts, String rule) {
        Scene scene = ruled("a=cb").text(text);
        CHECKS.test("promise 2: readRule reads " + name, () -> {
            CHECKS.act("readRule", scene, MorphWords::readRule, parts);
            MorphWords words = scene.get();
            words.readRule();
            CHECKS.due("the rule", Words.rule(words), rule);
            CHECKS.due("the word", Words.word(words), "a");
            CHECKS.due("the length of the text, which stays", words.count(7), text.length());
            CHECKS.due("the same text once more", words.readRule(), NONE);
        });
    }

    private static void textsOfRules() {
        String fullest = "a=abcdabcd;b=bcdabcda;c=cdabcdab;d=dabcdabc";
        reads("one part, the fewest", "b=cd", 1, "cb;cd;c;d");
        reads("15 parts, the most in 60 characters", "b=a;".repeat(14) + "b=cd", 15, "cb;cd;c;d");
        reads("60 characters, the last image of 8 letters",
            "b=ab;".repeat(10) + "d=dcbadcba", 11, "cb;ab;c;dcbadcba");
        reads("an image of 1 letter, the shortest", "a=d", 1, "d;b;c;d");
        reads("an image of 8 letters, the longest", "a=abcdabcd", 1, "abcdabcd;b;c;d");
        reads("a part behind an image of 8 letters", "d=abcdabcd;c=a", 2, "cb;b;a;abcdabcd");
        reads("images of 8 letters for all four", fullest, 4, "abcdabcd;bcdabcda;cdabcdab;dabcdabc");
        reads("a text without the first letters, which keep their images", "d=aa", 1, "cb;b;c;aa");
        reads("a text without the last letters, which keep their images", "a=aa", 1, "aa;b;c;d");
    }

    private static void repeatedParts() {
        reads("a letter told twice: the later, shorter image counts", "b=dddd;b=a", 2, "cb;a;c;d");
        reads("a letter told twice: the later, longer image counts", "b=a;b=dddd", 2, "cb;dddd;c;d");
        reads("a letter told twice, with another between", "b=aa;c=bb;b=cc", 3, "cb;cc;bb;d");
        reads("a letter told three times: the last image counts", "d=a;d=b;d=c", 3, "cb;b;c;c");
        CHECKS.leaves("promise 2: readRule, a letter told twice, at last as it is already: NONE",
            ruled("a=cb").text("a=dd;a=cb"), MorphWords::readRule, NONE);
        CHECKS.acts("promise 2: readRule, a letter told twice, at first as it is already",
            ruled("a=cb").text("a=cb;a=dd"), MorphWords::readRule, 2);
    }

    private static void fault(String text, int place) {
        CHECKS.leaves("promise 2: readRule, the fault of \"" + told(text) + "\"",
            ruled("a=cb").text(text), MorphWords::readRule, Words.faultAt(place));
    }

    private static String told(String text) {
        StringBuilder told = new StringBuilder();
        for (char sign : text.toCharArray()) {
            told.append(sign >= ' ' && sign < 127 ? "" + sign : "(char) " + (int) sign);
        }
        return told.toString();
    }

    private static void textsThatEndTooEarly() {
        CHECKS.leaves("promise 2: readRule, the fault of no text", Scene.fresh(), MorphWords::readRule,
            Words.faultAt(0));
        fault("", 0);
        fault("a", 1);
        fault("a=", 2);
        fault("a=a;", 4);
        fault("a=abcdabcd;", 11);
        fault("a=ab;b", 6);
        fault("a=ab;b=", 7);
        fault("a=a;".repeat(15), 60);
        fault("a=aa;".repeat(11) + "b=a;c", 60);
        fault("a=aa;".repeat(11) + "b=aa;", 60);
        CHECKS.leaves("promise 2: readRule, a fault goes ahead of NONE: all parts are so already",
            ruled("a=cb").text("a=cb;"), MorphWords::readRule, Words.faultAt(5));
        CHECKS.leaves("promise 2: readRule, a fault goes ahead of NONE: an empty image behind such a part",
            ruled("a=cb").text("a=cb;b="), MorphWords::readRule, Words.faultAt(7));
        CHECKS.leaves("promise 2: readRule, a fault goes ahead of an act: the first part would change the rule",
            ruled("a=cb").text("a=dd;c=a="), MorphWords::readRule, Words.faultAt(8));
    }

    private static void charactersThatAreNotAllowed() {
        String[] first = {";", "=", "`=a", "e=a", "A=a", " a=a", "0=a", "\u0000=a", "\u0161=a", "\uffff=a"};
        for (String text : first) {
            fault(text, 0);
        }
        for (String text : new String[] {"ab", "a;", "aa=a", "a =a", "a\u013da", "a<a", "a>a"}) {
            fault(text, 1);
        }
        for (String text : new String[] {"a==a", "a=;", "a= a", "a=`", "a=e", "a=A", "a=\u0161", "a=;b=a"}) {
            fault(text, 2);
        }
        for (String text : new String[] {"a=a=", "a=ae", "a=a`", "a=a ", "a=a:", "a=a<", "a=a\u013b", "a=a,b=a"}) {
            fault(text, 3);
        }
        fault("a=a;;", 4);
        fault("a=a;=", 4);
        fault("a=a;e=a", 4);
        fault("a=ab;b=;c=a", 7);
        fault("a=e;b=e", 2);
        fault("a=abcdabcda", 10);
        fault("a=abcdabcdd;b=a", 10);
        fault("a=abcdabcd=", 10);
        fault("a=abcdabcde", 10);
        fault("a=abcdabcd ;b=a", 10);
        fault("a=b;d=aaaaaaaaa", 14);
        fault("a=aaaaaaaa;b=aaaaaaaa;c=aaaaaaaa;d=aaaaaaaab", 43);
        fault("a=a;".repeat(14) + "a=a=", 59);
        fault("a=a;".repeat(14) + "a=ae", 59);
    }

    private static void rulesThatAreSoAlready() {
        CHECKS.leaves("promise 2: readRule, all letters are so already: NONE",
            RULED.text("d=aaaaaaab;c=bda;b=ad;a=cb"), MorphWords::readRule, NONE);
        CHECKS.leaves("promise 2: readRule, a new object, each letter as its own image: NONE",
            Scene.fresh().text("a=a;b=b;c=c;d=d"), MorphWords::readRule, NONE);
        CHECKS.acts("promise 2: readRule, the last letter of an image is another one",
            RULED.text("d=aaaaaaaa"), MorphWords::readRule, 1);
        CHECKS.acts("promise 2: readRule, what is there is only the beginning of the image",
            RULED.text("a=cba"), MorphWords::readRule, 1);
        CHECKS.acts("promise 2: readRule, the image is only the beginning of what is there",
            RULED.text("d=aaaaaaa"), MorphWords::readRule, 1);
        CHECKS.acts("promise 2: readRule, only the last part is not so already",
            RULED.text("a=cb;b=ad;c=bda;d=a"), MorphWords::readRule, 4);
    }

    private static void square() {
        CHECKS.acts("promise 3: square, an image of 8 letters then, the most",
            ruled("a=bb;b=cccc;d=c"), MorphWords::square, 8 + 4 + 1 + 1, "cccccccc;cccc;c;c a 0");
        CHECKS.acts("promise 3: square, all images of one letter", ruled("a=b;b=c;c=d;d=a"),
            MorphWords::square, 4, "c;d;a;b a 0");
        for (int letter = 0; letter < 4; letter++) {
            String name = letter(letter);
            String other = letter((letter + 1) % 4);
            String last = letter((letter + 2) % 4);
            CHECKS.leaves("promise 3: square, 9 letters in the image of " + name + " alone: FULL",
                ruled(name + "=" + other.repeat(3) + ";" + other + "=" + last.repeat(3)), MorphWords::square, FULL);
            CHECKS.acts("promise 3: square, 8 letters in the image of " + name,
                ruled(name + "=" + other.repeat(2) + ";" + other + "=" + last.repeat(4)), MorphWords::square, 14);
        }
        CHECKS.leaves("promise 3: square, 9 letters in an image, by its last letter: FULL",
            ruled("a=bbbbbbbd;b=c;d=cc"), MorphWords::square, FULL);
        CHECKS.acts("promise 3: square, 8 letters in an image, with its last letter",
            ruled("a=bbbbbbd;b=c;d=cc"), MorphWords::square, 8 + 1 + 1 + 2, "cccccccc;c;c;cc a 0");
        CHECKS.leaves("promise 3: square, 64 letters in an image: FULL", FASTEST, MorphWords::square, FULL);
        CHECKS.leaves("promise 3: square, a new object: NONE", Scene.fresh(), MorphWords::square, NONE);
        CHECKS.leaves("promise 3: square, a rule that is its own square: NONE",
            ruled("a=bc;d=bc"), MorphWords::square, NONE);
    }

    private static void shift() {
        ToIntFunction<MorphWords> left = words -> words.shift(false);
        ToIntFunction<MorphWords> right = words -> words.shift(true);
        CHECKS.acts("promise 4: shift to the left, a, the first letter",
            ruled("a=ab;b=ac;c=a;d=aad"), left, 0, "ba;ca;a;ada a 0");
        CHECKS.acts("promise 4: shift to the left, d, the last letter",
            ruled("a=da;b=db;c=d;d=dcd"), left, 3, "ad;bd;d;cdd a 0");
        CHECKS.acts("promise 4: shift to the right, a, the first letter",
            ruled("a=ba;b=ca;c=a;d=ada"), right, 0, "ab;ac;a;aad a 0");
        CHECKS.acts("promise 4: shift to the right, d, the last letter",
            ruled("a=ad;b=bd;c=d;d=cdd"), right, 3, "da;db;d;dcd a 0");
        CHECKS.acts("promise 4: shift to the left, images of 8 letters",
            ruled("a=cbbbaaaa;b=cbbbaaad;c=caaaaaab;d=cc"), left, 2, "bbbaaaac;bbbaaadc;aaaaaabc;cc a 0");
        CHECKS.acts("promise 4: shift to the right, images of 8 letters",
            ruled("a=aaaabbbc;b=daaabbbc;c=baaaaaac;d=cc"), right, 2, "caaaabbb;cdaaabbb;cbaaaaaa;cc a 0");
        String ends = "a=ab;b=acb;c=aab;d=ab";
        CHECKS.acts("promise 4: shift to the left, another letter at the ends", ruled(ends), left, 0);
        CHECKS.acts("promise 4: shift to the right, another letter at the beginnings", ruled(ends), right, 1);
        CHECKS.leaves("promise 4: shift to the left, only the ends are the same: NOT_POSSIBLE",
            ruled("a=ba;b=ca;c=a;d=da"), left, NOT_POSSIBLE);
        CHECKS.leaves("promise 4: shift to the right, only the beginnings are the same: NOT_POSSIBLE",
            ruled("a=ab;b=ac;c=a;d=ad"), right, NOT_POSSIBLE);
        CHECKS.leaves("promise 4: shift to the left, the rule would stay, but NOT_POSSIBLE goes ahead of NONE",
            Scene.fresh(), left, NOT_POSSIBLE);
        CHECKS.leaves("promise 4: shift to the right, the rule would stay, but NOT_POSSIBLE goes ahead of NONE",
            Scene.fresh(), right, NOT_POSSIBLE);
        for (String same : new String[] {"a=d;b=d;c=d", "a=bb;b=bbb;c=b;d=bbbbbbbb"}) {
            CHECKS.leaves("promise 4: shift to the left, NONE for " + same, ruled(same), left, NONE);
            CHECKS.leaves("promise 4: shift to the right, NONE for " + same, ruled(same), right, NONE);
        }
        CHECKS.acts("promise 4: shift to the left, one image alone becomes another",
            ruled("a=b;b=bb;c=b;d=bbbbbbba"), left, 1, "b;bb;b;bbbbbbab a 0");
        CHECKS.acts("promise 4: shift to the right, one image alone becomes another",
            ruled("a=abbbbbbb;b=bb;c=b;d=b"), right, 1, "babbbbbb;bb;b;b a 0");
    }

    /** The rule that is changed is the one that is there, not one that another call left behind. */
    private static void changesWhatIsThere() {
        Scene there = ruled("a=ab;b=ac;c=ad;d=a");
        Scene undone = there.rule("a=aaa;d=abb").then(MorphWords::undo);
        Scene refused = there.text("a=ccc;d=abb;").then(MorphWords::readRule);
        Scene full = there.rule("d=abcdabcd").then(MorphWords::square);
        CHECKS.acts("promise 4: shift, behind a rule that was undone", undone,
            words -> words.shift(false), 0, "ba;ca;da;a a 0");
        CHECKS.acts("promise 4: shift, behind a text with a fault", refused,
            words -> words.shift(false), 0, "ba;ca;da;a a 0");
        CHECKS.acts("promise 4: shift, behind a square that was refused", full,
            words -> words.shift(false), 0, "ba;ca;da;bcdabcda a 0");
        CHECKS.acts("promise 3: square, behind a rule that was undone", undone,
            MorphWords::square, 4 + 4 + 3 + 2, "abac;abad;aba;ab a 0");
        CHECKS.acts("promise 2: readRule, behind a rule that was undone", undone.text("b=d"),
            MorphWords::readRule, 1, "ab;d;ad;a a 0");
        CHECKS.acts("promise 2: readRule, behind a text with a fault", refused.text("b=d"),
            MorphWords::readRule, 1, "ab;d;ad;a a 0");
        CHECKS.acts("promise 2: readRule, behind a square that was refused", full.text("b=d"),
            MorphWords::readRule, 1, "ab;d;ad;abcdabcd a 0");
    }

    private static void shiftWithOneLetterThatDiffers() {
        for (int other = 0; other < 4; other++) {
            StringBuilder rule = new StringBuilder();
            for (int letter = 0; letter < 4; letter++) {
                rule.append(letter == 0 ? "" : ";").append(letter(letter)).append(letter == other ? "=bab" : "=aca");
            }
            CHECKS.leaves("promise 4: shift to the left, only the image of " + letter(other) + " differs",
                ruled(rule.toString()), words -> words.shift(false), NOT_POSSIBLE);
            CHECKS.leaves("promise 4: shift to the right, only the image of " + letter(other) + " differs",
                ruled(rule.toString()), words -> words.shift(true), NOT_POSSIBLE);
        }
    }

    private static void swap() {
        Scene scene = Scene.laden().word("abcdacbb").rule("a=ab;b=cad;c=d;d=acc").piece("ac");
        CHECKS.acts("promise 5: swap, letters 0 and 3, the first and the last one", scene,
            words -> words.swap(0, 3), 3, "dcc;cda;a;db dbcadcbb 2");
        CHECKS.acts("promise 5: swap, letters 3 and 0", scene,
            words -> words.swap(3, 0), 3, "dcc;cda;a;db dbcadcbb 2");
        CHECKS.acts("promise 5: swap, letters 1 and 2, and the piece stays", scene,
            words -> words.swap(1, 2), 5, "ac;d;bad;abb acbdabcc 2@0");
        CHECKS.acts("promise 5: swap, no letter of the word becomes another: 0, and an act",
            ruled("b=cd"), words -> words.swap(1, 2), 0, "a;b;bd;d a 0");
        CHECKS.acts("promise 5: swap, only one of both is in the word",
            Scene.laden().word("aabaa"), words -> words.swap(1, 3), 1, "a;b;c;d aadaa 0");
        CHECKS.acts("promise 5: swap, the word of one letter",
            Scene.laden(), words -> words.swap(2, 0), 1, "a;b;c;d c 0");
        CHECKS.acts("promise 5: swap, all of 300 letters", Scene.full(), words -> words.swap(0, 1), 300);
        CHECKS.acts("promise 5: swap, none of 300 letters", Scene.full(), words -> words.swap(2, 3), 0);
        CHECKS.acts("promise 5: swap, nothing at all becomes different, but it is an act",
            ruled("c=dc;d=cd"), words -> words.swap(2, 3), 0, "a;b;dc;cd a 0");
    }

    private static void swapArguments() {
        for (int bad : Words.outside(0, 3)) {
            CHECKS.leaves("promise 5: swap, one is " + bad + ": UNKNOWN",
                RULED, words -> words.swap(bad, 0), UNKNOWN);
            CHECKS.leaves("promise 5: swap, other is " + bad + ": UNKNOWN",
                RULED, words -> words.swap(3, bad), UNKNOWN);
            CHECKS.leaves("promise 5: swap, both are " + bad + ": UNKNOWN goes ahead of NONE",
                RULED, words -> words.swap(bad, bad), UNKNOWN);
        }
        for (int letter = 0; letter < 4; letter++) {
            int same = letter;
            CHECKS.leaves("promise 5: swap, both are " + same + ": NONE", RULED, words -> words.swap(same, same), NONE);
        }
    }

    private static void image() {
        CHECKS.leaves("promise 16: image, the first place", RULED, words -> words.image(0, 0), 2);
        CHECKS.leaves("promise 16: image, the last place", RULED, words -> words.image(0, 1), 1);
        CHECKS.leaves("promise 16: image, one place behind the last one", RULED, words -> words.image(0, 2), UNKNOWN);
        CHECKS.leaves("promise 16: image, the eighth place", RULED, words -> words.image(3, 7), 1);
        CHECKS.leaves("promise 16: image, the ninth place", RULED, words -> words.image(3, 8), UNKNOWN);
        CHECKS.leaves("promise 16: image, the only place", Scene.fresh(), words -> words.image(2, 0), 2);
        CHECKS.leaves("promise 16: image, behind the only place", Scene.fresh(), words -> words.image(2, 1), UNKNOWN);
        CHECKS.leaves("promise 16: image, a place that only a longer image had",
            RULED.rule("d=c"), words -> words.image(3, 1), UNKNOWN);
        for (int bad : Words.outside(0, 3)) {
            CHECKS.leaves("promise 16: image, letter " + bad, RULED, words -> words.image(bad, 0), UNKNOWN);
            CHECKS.leaves("promise 16: image, letter and place " + bad, RULED, words -> words.image(bad, bad), UNKNOWN);
        }
        for (int bad : Words.outside(0, 7)) {
            CHECKS.leaves("promise 16: image, place " + bad, RULED, words -> words.image(3, bad), UNKNOWN);
        }
    }

    private static void tellsRule(String name, String rule, int letter, int what, int want) {
        CHECKS.leaves("promise 17: rule, " + name, ruled(rule), words -> words.rule(letter, what), want);
    }

    private static void rule() {
        tellsRule("the shortest image", "a=bbbbbbbb;b=c", 1, 0, 1);
        tellsRule("the longest image", "a=bbbbbbbb;b=c", 0, 0, 8);
        tellsRule("a alone in an image", "c=aaa", 2, 1, 1);
        tellsRule("b alone in an image", "c=b", 2, 1, 2);
        tellsRule("c alone in an image", "d=cc", 3, 1, 4);
        tellsRule("d alone in an image", "a=dddddddd", 0, 1, 8);
        tellsRule("all four in an image, the last one at its end", "d=aaaaabcd", 3, 1, 15);
        tellsRule("begins with itself, with 2 letters, the fewest", "a=ab", 0, 3, 1);
        tellsRule("begins with itself, with 8 letters", "d=daaaaaaa", 3, 3, 1);
        tellsRule("is itself and no more", "a=ab", 1, 3, 0);
        tellsRule("has itself as its second letter only", "b=ab", 1, 3, 0);
        tellsRule("begins with another letter and is alone", "b=a", 1, 3, 0);
        for (int bad : Words.outside(0, 3)) {
            CHECKS.leaves("promise 17: rule, letter " + bad, RULED, words -> words.rule(bad, 0), UNKNOWN);
            CHECKS.leaves("promise 17: rule, what is " + bad, RULED, words -> words.rule(0, bad), BAD_VALUE);
            CHECKS.leaves("promise 17: rule, letter and what are " + bad + ": UNKNOWN goes ahead of BAD_VALUE",
                RULED, words -> words.rule(bad, bad), UNKNOWN);
        }
    }

    private static void reached() {
        tellsRule("reached: itself alone", "b=a", 0, 2, 1);
        tellsRule("reached: itself too, though no image has it", "a=b", 0, 2, 3);
        tellsRule("reached: in one step, by the eighth letter", "a=aaaaaaad", 0, 2, 9);
        tellsRule("reached: in two steps", "a=b;b=c", 0, 2, 7);
        tellsRule("reached: in three steps, the most", "a=b;b=c;c=d", 0, 2, 15);
        tellsRule("reached: in three steps the other way", "d=c;c=b;b=a", 3, 2, 15);
        tellsRule("reached: not against the way", "a=b;b=c;c=d", 3, 2, 8);
        tellsRule("reached: round and back", "a=b;b=c;c=d;d=a", 2, 2, 15);
    }

    private static void lengthOf(String name, Scene scene, int letter, int times, int want) {
        CHECKS.leaves("promise 18: lengthBehind, " + name, scene, words -> words.lengthBehind(letter, times), want);
    }

    private static void lengthBehind() {
        Scene grows = ruled("a=ab;b=a;c=cd");
        for (int letter = 0; letter < 4; letter++) {
            lengthOf("n of 0, the letter " + letter + " itself", FASTEST, letter, 0, 1);
        }
        lengthOf("n of 1, the image", RULED, 3, 1, 8);
        lengthOf("n of 16", grows, 0, 16, 2584);
        lengthOf("n of 30, the most, a letter that grows slowly", grows, 2, 30, 31);
        lengthOf("n of 30, the most, a letter that does not grow", grows, 3, 30, 1);
        lengthOf("999999 letters", ruled("a=bacac;b=bacd;c=dbaaabb;d=ccbbbcca"), 2, 8, 999999);
        lengthOf("1000000 letters, the most", MILLION, 0, 7, 1000000);
        lengthOf("1000001 letters: FULL", MILLION_AND_ONE, 2, 8, FULL);
        lengthOf("behind 1000000 letters: FULL", MILLION, 0, 8, FULL);
        lengthOf("832040 letters, and 28 times", grows, 0, 28, 832040);
        lengthOf("1346269 letters, and 29 times: FULL", grows, 0, 29, FULL);
        lengthOf("n of 30, with more letters than an int can tell: FULL", FASTEST, 0, 30, FULL);
        lengthOf("with just 2 to the 30th letters: FULL", ruled("a=bb;b=aa"), 0, 30, FULL);
        for (int times = 11; times < 30; times++) {
            lengthOf("8 to the power of " + times + ": FULL", FASTEST, 3, times, FULL);
        }
    }

    private static void lengthBehindArguments() {
        for (int bad : Words.outside(0, 3)) {
            lengthOf("letter " + bad + ": UNKNOWN", RULED, bad, 1, UNKNOWN);
        }
        for (int bad : Words.outside(0, 30)) {
            lengthOf("times " + bad + ": BAD_VALUE", RULED, 0, bad, BAD_VALUE);
            lengthOf("letter 4 and times " + bad + ": UNKNOWN goes ahead of BAD_VALUE", RULED, 4, bad, UNKNOWN);
            lengthOf("times " + bad + " and images too long: BAD_VALUE goes ahead of FULL", FASTEST, 0, bad, BAD_VALUE);
        }
        lengthOf("letter -1 and images too long: UNKNOWN goes ahead of FULL", FASTEST, -1, 30, UNKNOWN);
    }

    private static void countOf(String name, Scene scene, int letter, int other, int times, int want) {
        CHECKS.leaves("promise 19: countBehind, " + name, scene,
            words -> words.countBehind(letter, other, times), want);
    }

    private static void countBehind() {
        Scene grows = ruled("a=ab;b=a;c=cd");
        for (int letter = 0; letter < 4; letter++) {
            countOf("n of 0, the letter " + letter + " in itself", FASTEST, letter, letter, 0, 1);
            countOf("n of 0, another letter in " + letter, FASTEST, letter, (letter + 1) % 4, 0, 0);
        }
        countOf("n of 1, the image", RULED, 3, 0, 1, 7);
        countOf("n of 1, a letter that the image has not", RULED, 3, 3, 1, 0);
        countOf("n of 16", grows, 0, 1, 16, 987);
        countOf("n of 30, the most", grows, 2, 3, 30, 30);
        countOf("n of 30, a letter that comes once", grows, 2, 2, 30, 1);
        countOf("n of 30, a letter that does not come", grows, 3, 0, 30, 0);
        int[] million = {229548, 476144, 114669, 179639};
        for (int other = 0; other < 4; other++) {
            countOf("letter " + other + " in 1000000 letters, the most", MILLION, 0, other, 7, million[other]);
            countOf("letter " + other + " in 1000001 letters: FULL", MILLION_AND_ONE, 2, other, 8, FULL);
        }
        countOf("999999 letters", ruled("a=bacac;b=bacd;c=dbaaabb;d=ccbbbcca"), 2, 3, 8, 102294);
        countOf("FULL, though the other letter does not come", FASTEST, 0, 3, 7, FULL);
        countOf("FULL, though the other letter comes once", ruled("a=aaaaaaaa;b=ab"), 1, 1, 8, FULL);
        countOf("n of 30, with more letters than an int can tell: FULL", FASTEST, 0, 0, 30, FULL);
    }

    private static void countBehindArguments() {
        for (int bad : Words.outside(0, 3)) {
            countOf("letter " + bad + ": UNKNOWN", RULED, bad, 0, 1, UNKNOWN);
            countOf("other " + bad + ": UNKNOWN", RULED, 0, bad, 1, UNKNOWN);
            countOf("other " + bad + " and n of 0: UNKNOWN", RULED, 0, bad, 0, UNKNOWN);
            countOf("other " + bad + " and images too long: UNKNOWN goes ahead of FULL", FASTEST, 0, bad, 30, UNKNOWN);
        }
        for (int bad : Words.outside(0, 30)) {
            countOf("times " + bad + ": BAD_VALUE", RULED, 0, 0, bad, BAD_VALUE);
            countOf("letter 4 and times " + bad + ": UNKNOWN goes ahead of BAD_VALUE", RULED, 4, 0, bad, UNKNOWN);
            countOf("other -1 and times " + bad + ": UNKNOWN goes ahead of BAD_VALUE", RULED, 0, -1, bad, UNKNOWN);
            countOf("times " + bad + " and images too long: BAD_VALUE goes ahead of FULL",
                FASTEST, 0, 0, bad, BAD_VALUE);
        }
    }

    private static void mixes(String name, String rule, int want) {
        CHECKS.leaves("promise 20: mixing, " + name, ruled(rule), MorphWords::mixing, want);
    }

    private static void mixing() {
        CHECKS.leaves("promise 20: mixing, a alone by 1, the least, not by 0", Scene.fresh(), MorphWords::mixing, 1);
        mixes("by 1, all four letters in each image", "a=abcd;b=dcba;c=cdab;d=badc", 1);
        mixes("by 2", "a=ab;b=a", 2);
        mixes("by 2, as one of four images lacks one letter", "a=abcd;b=dcba;c=cdab;d=bad", 2);
        mixes("by 10, the slowest that four letters can be", "a=b;b=c;c=d;d=ab", 10);
        mixes("letters that cannot be reached from a need not mix", "a=ab;b=ba;c=d;d=c", 1);
        mixes("letters that cannot be reached from a need not be had", "a=aa;b=b;c=cd;d=c", 1);
        mixes("a itself has to be had: NONE if no image has it", "a=b", NONE);
        mixes("a letter that leads only to itself: NONE", "a=ab", NONE);
        mixes("to and fro, each letter by another n: NONE", "a=b;b=a", NONE);
        mixes("round all four, never all at once: NONE", "a=b;b=c;c=d;d=a", NONE);
        mixes("to and fro in pairs, no n up to 16: NONE", "a=bd;b=ac;c=bd;d=ca", NONE);
    }
}
