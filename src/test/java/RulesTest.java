import java.util.function.Supplier;

/** Promises 2 to 5 and 16 to 20 for ordinary inputs: rules that are read, composed, shifted, exchanged and told. */
public final class RulesTest {
    private static final Checks CHECKS = new Checks();

    private RulesTest() {
    }

    public static void main(String[] args) {
        CHECKS.test("promise 2: readRule reads parts", RulesTest::readRule);
        CHECKS.test("promise 2: readRule keeps what is not told", RulesTest::readRuleKeeps);
        CHECKS.test("promise 3: square", RulesTest::square);
        CHECKS.test("promise 4: shift", RulesTest::shift);
        CHECKS.test("promise 5: swap", RulesTest::swap);
        CHECKS.test("promise 16: image", RulesTest::image);
        CHECKS.test("promise 17: rule", RulesTest::rule);
        CHECKS.test("promise 18: lengthBehind", RulesTest::lengthBehind);
        CHECKS.test("promise 19: countBehind", RulesTest::countBehind);
        CHECKS.test("promise 20: mixing", RulesTest::mixing);
        CHECKS.end();
    }

    private static Supplier<MorphWords> rule(String rule) {
        return () -> Words.withRule(rule);
    }

    private static Supplier<MorphWords> text(String rule, String text) {
        return () -> Words.withText(rule, text);
    }

    private static void readRule() {
        String full = "a=a" + ";a=a".repeat(13) + ";a=aa";
        CHECKS.act("two parts", text("a=b", "c=dab;a=bb"), MorphWords::readRule, 2);
        CHECKS.act("the later image counts", text("a=b", "d=a;d=b;d=ccc"), MorphWords::readRule, 3);
        CHECKS.act("eight letters", text("a=b", "a=abcdabcd"), MorphWords::readRule, 1);
        CHECKS.act("60 characters", text("a=b", full), MorphWords::readRule, 15);
        MorphWords words = Words.withRule("c=dab;a=bb");
        CHECKS.due("the text stays", words.count(7), 10);
        CHECKS.due("the word stays", Words.word(words), "a");
        CHECKS.due("letters that are not told keep their images", Words.rule(words), "bb;b;dab;d");
        Words.read(words, "d=a;d=b;d=ccc");
        CHECKS.due("the later image", Words.rule(words), "bb;b;dab;ccc");
        Words.read(words, "a=d");
        CHECKS.due("a shorter image", Words.rule(words), "d;b;dab;ccc");
        Words.read(words, full);
        CHECKS.due("length of the fullest text", words.count(7), 60);
    }

    /** Whatever was read, composed or shifted before, only the rule that is there counts. */
    private static void readRuleKeeps() {
        MorphWords faulty = Words.withRule("b=cd");
        Words.read(faulty, "b=ccc;c=d;d=");
        Words.read(faulty, "a=b");
        CHECKS.due("behind a text with a fault", Words.rule(faulty), "b;cd;c;d");
        MorphWords undone = Words.withRule("b=cd");
        Words.read(undone, "c=aa");
        undone.undo();
        Words.read(undone, "a=b");
        CHECKS.due("behind undo", Words.rule(undone), "b;cd;c;d");
        MorphWords full = Words.withRule("b=abcdabcd");
        full.square();
        Words.read(full, "a=b");
        CHECKS.due("behind a square that is too long", Words.rule(full), "b;abcdabcd;c;d");
    }

    private static void square() {
        CHECKS.act("square", rule("a=ab;b=ca;d=bd"), MorphWords::square, 4 + 3 + 1 + 4);
        CHECKS.act("an image of 8 letters", rule("a=bb;b=cccc"), MorphWords::square, 8 + 4 + 1 + 1);
        CHECKS.act("a rule that goes to and fro", rule("a=b;b=a"), MorphWords::square, 4);
        MorphWords words = Words.withRule("a=ab;b=ca;d=bd");
        words.square();
        CHECKS.due("the squared rule", Words.rule(words), "abca;cab;c;cabd");
        CHECKS.due("the word stays", Words.word(words), "a");
    }

    private static void shift() {
        String left = "a=bcd;b=ba;c=b;d=bbdd";
        CHECKS.act("to the left", rule(left), words -> words.shift(false), 1);
        String right = "a=ad;b=bd;c=cd;d=dad";
        CHECKS.act("to the right", rule(right), words -> words.shift(true), 3);
        MorphWords words = Words.withRule(left);
        words.shift(false);
        CHECKS.due("shifted to the left", Words.rule(words), "cdb;ab;b;bddb");
        CHECKS.due("not again", words.shift(false), -4);
        CHECKS.due("back to the right", words.shift(true), 1);
        CHECKS.due("the rule as it was", Words.rule(words), "bcd;ba;b;bbdd");
        MorphWords other = Words.withRule(right);
        other.shift(true);
        CHECKS.due("shifted to the right", Words.rule(other), "da;db;dc;dda");
    }

    private static MorphWords forSwap() {
        MorphWords words = Words.withWord("abcdacbb");
        Words.read(words, "a=ab;b=cad;c=d;d=acc");
        Words.look(words, "ac");
        return words;
    }

    private static void swap() {
        CHECKS.act("a and c", RulesTest::forSwap, words -> words.swap(0, 2), 4);
        CHECKS.act("c and a", RulesTest::forSwap, words -> words.swap(2, 0), 4);
        CHECKS.act("b and d", RulesTest::forSwap, words -> words.swap(1, 3), 4);
        CHECKS.act("letters that the word does not have", MorphWords::new, words -> words.swap(1, 3), 0);
        CHECKS.act("all letters", () -> Words.withWord("abba"), words -> words.swap(1, 0), 4);
        MorphWords words = forSwap();
        words.swap(0, 2);
        CHECKS.due("the word", Words.word(words), "cbadcabb");
        CHECKS.due("the rule", Words.rule(words), "d;acd;cb;caa");
        CHECKS.due("the piece stays, so it comes no more", words.count(3), 0);
        words.swap(2, 0);
        CHECKS.due("the word as it was", Words.word(words), "abcdacbb");
        CHECKS.due("the rule as it was", Words.rule(words), "ab;cad;d;acc");
        CHECKS.due("the piece comes again", words.comes(0), 4);
        CHECKS.due("the length of the piece", words.count(2), 2);
    }

    private static void image() {
        String rule = "a=dcba;c=bd;d=aaaaaaab";
        MorphWords words = Words.withRule(rule);
        CHECKS.due("the first letter", words.image(0, 0), 3);
        CHECKS.due("the second letter", words.image(0, 1), 2);
        CHECKS.due("the last letter", words.image(0, 3), 0);
        CHECKS.due("its own image", words.image(1, 0), 1);
        CHECKS.due("another image", words.image(2, 1), 3);
        Words.read(words, "d=c");
        CHECKS.due("what a longer image left is gone", words.image(3, 1), -1);
    }

    private static void rule() {
        MorphWords words = Words.withRule("a=acca;b=ddd;d=bd");
        int[][] due = {{4, 5, 5, 1}, {3, 8, 10, 0}, {1, 4, 4, 0}, {2, 10, 10, 0}};
        for (int letter = 0; letter < 4; letter++) {
            for (int what = 0; what < 4; what++) {
                CHECKS.due("rule(" + letter + ", " + what + ")", words.rule(letter, what), due[letter][what]);
            }
        }
        MorphWords chain = Words.withRule("d=c;c=b;b=a;a=aa");
        CHECKS.due("reached in three steps", chain.rule(3, 2), 15);
        CHECKS.due("reached in two steps", chain.rule(2, 2), 7);
        CHECKS.due("itself alone", chain.rule(0, 2), 1);
        CHECKS.due("begins with itself twice", chain.rule(0, 3), 1);
        CHECKS.due("a single letter that is another", chain.rule(1, 3), 0);
        CHECKS.due("letters in an image of another", chain.rule(3, 1), 4);
        MorphWords end = Words.withRule("b=ab;c=cb");
        CHECKS.due("itself but not first", end.rule(1, 3), 0);
        CHECKS.due("itself first", end.rule(2, 3), 1);
        CHECKS.due("itself alone does not grow", end.rule(0, 3), 0);
        CHECKS.due("itself too, though no image has it", Words.withRule("a=b").rule(0, 2), 3);
    }

    private static void lengthBehind() {
        MorphWords words = Words.withRule("a=ab;b=a;c=dd;d=c");
        CHECKS.due("a, 0 times", words.lengthBehind(0, 0), 1);
        CHECKS.due("a, once", words.lengthBehind(0, 1), 2);
        CHECKS.due("a, twice", words.lengthBehind(0, 2), 3);
        CHECKS.due("b, 10 times", words.lengthBehind(1, 10), 89);
        CHECKS.due("a, 28 times", words.lengthBehind(0, 28), 832040);
        CHECKS.due("a, 29 times", words.lengthBehind(0, 29), -3);
        CHECKS.due("a, 30 times", words.lengthBehind(0, 30), -3);
        CHECKS.due("b, 30 times", words.lengthBehind(1, 30), -3);
        CHECKS.due("c, 30 times", words.lengthBehind(2, 30), 32768);
        MorphWords most = Words.withRule("a=cbdbbddb;b=adcbabbb;c=bacadab;d=bbaa");
        CHECKS.due("just the most", most.lengthBehind(0, 7), 1000000);
        CHECKS.due("behind just the most", most.lengthBehind(0, 8), -3);
        MorphWords more = Words.withRule("a=cadbbab;b=abbcbb;c=dabb;d=ddcbcb");
        CHECKS.due("one more", more.lengthBehind(2, 8), -3);
        MorphWords less = Words.withRule("a=bacac;b=bacd;c=dbaaabb;d=ccbbbcca");
        CHECKS.due("one less", less.lengthBehind(2, 8), 999999);
        MorphWords fast = Words.withRule("a=aaaaaaaa;b=bbbbbbbb;c=cccccccc;d=abcdabcd");
        CHECKS.due("8 to the 6th", fast.lengthBehind(3, 6), 262144);
        for (int times = 7; times <= 30; times++) {
            CHECKS.due("8 to the power " + times, fast.lengthBehind(3, times), -3);
        }
    }

    private static void countBehind() {
        MorphWords words = Words.withRule("a=ab;b=a;c=ccd;d=d");
        CHECKS.due("a in a, 0 times", words.countBehind(0, 0, 0), 1);
        CHECKS.due("b in a, 0 times", words.countBehind(0, 1, 0), 0);
        CHECKS.due("a in a, 10 times", words.countBehind(0, 0, 10), 89);
        CHECKS.due("b in a, 10 times", words.countBehind(0, 1, 10), 55);
        CHECKS.due("b in b, 10 times", words.countBehind(1, 1, 10), 34);
        CHECKS.due("c in a, 10 times", words.countBehind(0, 2, 10), 0);
        CHECKS.due("d in c, 3 times", words.countBehind(2, 3, 3), 7);
        CHECKS.due("c in c, 3 times", words.countBehind(2, 2, 3), 8);
        CHECKS.due("the last image that is not too long", words.countBehind(0, 1, 28), 317811);
        CHECKS.due("an image that is too long", words.countBehind(0, 1, 29), -3);
        CHECKS.due("too long, without the other letter", words.countBehind(0, 2, 29), -3);
        MorphWords more = Words.withRule("a=cadbbab;b=abbcbb;c=dabb;d=ddcbcb");
        CHECKS.due("one too long", more.countBehind(2, 0, 8), -3);
        MorphWords most = Words.withRule("a=cbdbbddb;b=adcbabbb;c=bacadab;d=bbaa");
        int all = 0;
        for (int other = 0; other < 4; other++) {
            all += most.countBehind(0, other, 7);
        }
        CHECKS.due("all letters of the longest image", all, 1000000);
    }

    private static void mixing() {
        CHECKS.due("a alone", new MorphWords().mixing(), 1);
        CHECKS.due("by 1", Words.withRule("a=ab;b=ba").mixing(), 1);
        CHECKS.due("by 2", Words.withRule("a=ab;b=a").mixing(), 2);
        CHECKS.due("by 3", Words.withRule("a=abc;b=c;c=a").mixing(), 3);
        CHECKS.due("to and fro", Words.withRule("a=b;b=a").mixing(), -5);
        CHECKS.due("no way back", Words.withRule("a=ab").mixing(), -5);
        CHECKS.due("a does not come again", Words.withRule("a=b").mixing(), -5);
        MorphWords apart = Words.withRule("a=ab;b=ab;c=d;d=c");
        CHECKS.due("letters that cannot be reached do not count", apart.mixing(), 1);
        // The slowest that four letters can be: Wielandt's bound, (4 - 1) * (4 - 1) + 1.
        CHECKS.due("by 10", Words.withRule("a=b;b=c;c=d;d=ab").mixing(), 10);
    }
}
