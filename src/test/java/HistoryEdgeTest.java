import java.util.function.ToIntFunction;

/** Promises 11 to 15 and 30 at their edges: a test for each boundary that the document names. */
public final class HistoryEdgeTest implements Answers {
    private static final Checks CHECKS = new Checks();
    private static final String SIXTY = "b=a;".repeat(14) + "b=cd";
    private static final Scene FRESH = Scene.fresh();
    private static final Scene FULL_TEXT = Scene.laden().text(SIXTY);
    /** A state with a rule, a word and a piece of its own, of which a snapshot is taken. */
    private static final Scene KEPT = Scene.laden().word("abcab").rule("a=bd;d=cc").piece("ca").then(MorphWords::keep);
    /** The same, and then each part of the state becomes another. */
    private static final Scene CHANGED = KEPT.rule("a=c;b=ab").then(words -> words.start(3)).piece("d");
    private static final String KEPT_STATE = "bd;b;c;cc abcab 2@2";

    private HistoryEdgeTest() {
    }

    public static void main(String[] args) {
        type();
        typeAnyCharacter();
        clearText();
        undo();
        fiveStates();
        whatIsRecorded();
        whatIsNotRecorded();
        whatUndoBringsBack();
        keep();
        restore();
        restoreTwice();
        count();
        countOfPieces();
        countArguments();
        calls();
        CHECKS.end();
    }

    private static void type() {
        CHECKS.test("promise 11: type, the lengths from 1 to 60", () -> {
            MorphWords words = new MorphWords();
            for (int i = 0; i < 60; i++) {
                CHECKS.due("the length", words.type('a'), i + 1);
            }
            CHECKS.due("the length then", words.count(7), 60);
        });
        CHECKS.leaves("promise 11: type, one more than 60 characters: FULL", FULL_TEXT, words -> words.type(';'), FULL);
        CHECKS.leaves("promise 11: type, the last one once more: FULL", FULL_TEXT, words -> words.type('d'), FULL);
        CHECKS.test("promise 11: type, the 60th character is in the text, the 61st is not", () -> {
            MorphWords words = Scene.fresh().text(SIXTY.substring(0, 59)).get();
            CHECKS.due("the 60th", words.type('d'), 60);
            CHECKS.due("the 61st", words.type('d'), FULL);
            CHECKS.due("the rule is read", words.readRule(), 15);
            CHECKS.due("the rule", Words.rule(words), "a;cd;c;d");
        });
        CHECKS.test("promise 11: type, behind the text", () -> {
            MorphWords words = Scene.fresh().text("a=").get();
            words.readRule();
            CHECKS.due("a character behind a text that was read", words.type('c'), 3);
            CHECKS.due("the rule is read", words.readRule(), 1);
            CHECKS.due("the rule", Words.rule(words), "c;b;c;d");
        });
    }

    private static void typeAnyCharacter() {
        char[] signs = {0, 1, '\n', ' ', 'a', 'd', 'e', ';', '=', 127, 128, 255, 256, 0x161, 0xd800, 0xffff};
        for (char sign : signs) {
            CHECKS.test("promise 11: type, (char) " + (int) sign, () -> {
                MorphWords words = new MorphWords();
                CHECKS.due("at first", words.type(sign), 1);
                CHECKS.due("again", words.type(sign), 2);
                CHECKS.due("the length", words.count(7), 2);
                CHECKS.due("the fault as a rule", words.readRule(), Words.faultAt(sign == 'a' || sign == 'd' ? 1 : 0));
            });
        }
    }

    private static void clearText() {
        CHECKS.leaves("promise 12: clearText, an empty text: 0", FRESH, MorphWords::clearText, 0);
        CHECKS.leaves("promise 12: clearText, an emptied text: 0",
            FULL_TEXT.then(MorphWords::clearText), MorphWords::clearText, 0);
        CHECKS.test("promise 12: clearText, 60 characters", () -> {
            MorphWords words = FULL_TEXT.get();
            CHECKS.due("the length that it had", words.clearText(), 60);
            CHECKS.due("the length", words.count(7), 0);
            CHECKS.due("the fault as a rule", words.readRule(), Words.faultAt(0));
            CHECKS.due("the fault as a piece", words.look(), Words.faultAt(0));
            CHECKS.due("there is room again", words.type('d'), 1);
            CHECKS.due("what was typed before is gone", words.readRule(), Words.faultAt(1));
            CHECKS.due("the piece is what was typed then", words.look(), 0);
            CHECKS.due("its length", words.count(2), 1);
        });
        CHECKS.test("promise 12: clearText, one character", () -> {
            MorphWords words = Scene.laden().text("x").get();
            CHECKS.due("the length that it had", words.clearText(), 1);
            CHECKS.due("the length then", words.clearText(), 0);
        });
    }

    private static Scene started(int times) {
        Scene scene = Scene.fresh();
        for (int time = 1; time <= times; time++) {
            int letter = time % 4;
            scene = scene.then(words -> words.start(letter));
        }
        return scene;
    }

    private static void undo() {
        CHECKS.leaves("promise 13: undo, an empty history: NONE", FRESH, MorphWords::undo, NONE);
        CHECKS.leaves("promise 13: undo, a history that has been emptied: NONE",
            started(1).then(MorphWords::undo), MorphWords::undo, NONE);
        CHECKS.leaves("promise 13: undo, an empty history, a text and a snapshot: NONE",
            Scene.fresh().text("a=b").then(MorphWords::keep), MorphWords::undo, NONE);
        for (int acts = 1; acts <= 4; acts++) {
            int made = acts;
            CHECKS.test("promise 13: undo behind " + made + " acts", () -> {
                MorphWords words = started(made).get();
                for (int left = made - 1; left >= 0; left--) {
                    CHECKS.due("states left", words.undo(), left);
                    CHECKS.due("the letter then", words.at(0), left);
                    CHECKS.due("states in the history", words.count(6), left);
                }
                CHECKS.due("nothing left", words.undo(), NONE);
                CHECKS.due("the letter at first", words.at(0), 0);
            });
        }
        CHECKS.test("promise 13: undo is no act: undo once more goes on to the state before", () -> {
            MorphWords words = started(3).get();
            words.undo();
            words.undo();
            CHECKS.due("the letter of two acts before", words.at(0), 1);
        });
        CHECKS.test("promise 13: undo, an act behind it is recorded in place of what was undone", () -> {
            MorphWords words = started(3).then(MorphWords::undo).get();
            words.start(0);
            CHECKS.due("states in the history", words.count(6), 3);
            CHECKS.due("states left", words.undo(), 2);
            CHECKS.due("the letter then", words.at(0), 2);
        });
    }

    private static void fiveStates() {
        for (int acts : new int[] {5, 6, 8, 9, 23}) {
            CHECKS.test("the history: at most 4 states behind " + acts + " acts, the oldest ones are dropped", () -> {
                MorphWords words = started(acts).get();
                CHECKS.due("states in the history", words.count(6), 4);
                for (int left = 3; left >= 0; left--) {
                    CHECKS.due("states left", words.undo(), left);
                    CHECKS.due("the letter then", words.at(0), (acts - 4 + left) % 4);
                }
                CHECKS.due("what was dropped does not come back", words.undo(), NONE);
                CHECKS.due("the letter still", words.at(0), (acts - 4) % 4);
            });
        }
        CHECKS.test("the history: 4 states, one undone, two more: one is dropped", () -> {
            MorphWords words = started(4).then(MorphWords::undo).get();
            words.start(0);
            CHECKS.due("states behind one act", words.count(6), 4);
            words.start(1);
            CHECKS.due("states behind two acts", words.count(6), 4);
            int[] letters = {0, 3, 2, 1};
            for (int i = 0; i < 4; i++) {
                CHECKS.due("states left", words.undo(), 3 - i);
                CHECKS.due("the letter then", words.at(0), letters[i]);
            }
            CHECKS.due("nothing left", words.undo(), NONE);
        });
    }

    private static void whatIsRecorded() {
        Scene ready = Scene.fresh().rule("a=ab;b=a;c=aa;d=a").text("a=b");
        recorded("readRule", ready, MorphWords::readRule, 1);
        recorded("square", ready, MorphWords::square, 3 + 2 + 4 + 2);
        recorded("shift to the left", ready, words -> words.shift(false), 0);
        recorded("shift to the right", Scene.fresh().rule("a=ba;b=a;c=aa;d=a"), words -> words.shift(true), 0);
        recorded("swap", ready, words -> words.swap(0, 1), 1);
        recorded("start", ready, words -> words.start(1), 1);
        recorded("grow", ready, words -> words.grow(1), 2);
        recorded("cut", ready.grow(1), words -> words.cut(1), 1);
        recorded("derive", ready.grow(3).piece("a"), MorphWords::derive, 2);
        recorded("look", ready.text("a"), MorphWords::look, 1);
        recorded("restore", ready.then(MorphWords::keep), MorphWords::restore, 1);
    }

    private static void recorded(String name, Scene scene, ToIntFunction<MorphWords> call, int want) {
        CHECKS.acts("the history: " + name + " is an act, with room for the state", scene, call, want);
        Scene full = scene.then(words -> words.swap(2, 3)).then(words -> words.swap(2, 3))
            .then(words -> words.swap(2, 3)).then(words -> words.swap(2, 3));
        CHECKS.acts("the history: " + name + " is an act, in place of the oldest state", full, call, want);
    }

    private static void whatIsNotRecorded() {
        CHECKS.test("the history: type and clearText are no acts, and undo does not bring the text back", () -> {
            MorphWords words = started(2).get();
            words.type('a');
            words.type('=');
            CHECKS.due("states behind type", words.count(6), 2);
            words.undo();
            CHECKS.due("the text's length behind undo", words.count(7), 2);
            words.clearText();
            CHECKS.due("states behind clearText", words.count(6), 1);
            words.undo();
            CHECKS.due("the text's length behind undo again", words.count(7), 0);
        });
        CHECKS.test("the history: keep is no act, and undo does not take the snapshot back", () -> {
            MorphWords words = started(2).get();
            words.keep();
            CHECKS.due("states behind keep", words.count(6), 2);
            words.undo();
            CHECKS.due("the snapshot is there", words.restore(), 1);
            CHECKS.due("its letter", words.at(0), 2);
        });
        CHECKS.test("the history: restore, undone, leaves the snapshot", () -> {
            MorphWords words = CHANGED.get();
            words.restore();
            words.undo();
            CHECKS.due("restored again", words.restore(), 5);
            CHECKS.due("the state", Words.state(words), KEPT_STATE);
        });
        CHECKS.test("the history: no error and no NONE is recorded, whatever comes behind it", () -> {
            MorphWords words = started(2).get();
            words.start(2);
            words.start(4);
            words.cut(2);
            words.square();
            words.derive();
            CHECKS.due("states", words.count(6), 2);
            CHECKS.due("states left", words.undo(), 1);
            CHECKS.due("the letter then", words.at(0), 1);
        });
    }

    private static void whatUndoBringsBack() {
        CHECKS.test("the history: a state is the rule, the word and the piece, all of them", () -> {
            MorphWords words = KEPT.get();
            words.start(3);
            Words.look(words, "d");
            Words.read(words, "a=c;b=ab");
            words.undo();
            words.undo();
            words.undo();
            CHECKS.due("the state", Words.state(words), KEPT_STATE);
        });
        CHECKS.test("the history: a state without a piece", () -> {
            MorphWords words = Scene.fresh().piece("a").get();
            words.undo();
            CHECKS.due("no piece", words.count(2), 0);
            CHECKS.due("how often it comes", words.count(3), NONE);
        });
        CHECKS.test("the history: a state with a word of 300 letters and a piece of 20", () -> {
            MorphWords words = Scene.hundred().rule("a=aaa;b=acd").grow(1).piece("a".repeat(18) + "cd").get();
            words.start(2);
            CHECKS.due("the word of one letter", words.count(0), 1);
            Words.look(words, "c");
            words.undo();
            words.undo();
            CHECKS.due("the length of the word", words.count(0), 300);
            CHECKS.due("its last letter", words.at(299), 3);
            CHECKS.due("the place of the piece", words.comes(0), 280);
        });
        CHECKS.test("the history: what comes behind undo does not change the states that are left", () -> {
            MorphWords words = started(3).then(MorphWords::undo).get();
            words.swap(1, 2);
            Words.read(words, "a=bbb;b=cc;c=d");
            words.grow(2);
            words.undo();
            words.undo();
            words.undo();
            CHECKS.due("the state", Words.state(words), "a;b;c;d c 0");
            words.undo();
            CHECKS.due("the state before", Words.state(words), "a;b;c;d b 0");
        });
    }

    private static void keep() {
        CHECKS.test("promise 14: keep, a word of one letter", () -> CHECKS.due("keep", new MorphWords().keep(), 1));
        CHECKS.test("promise 14: keep, 300 letters", () -> {
            MorphWords words = Scene.full().get();
            CHECKS.due("keep", words.keep(), 300);
            words.start(1);
            CHECKS.due("restore", words.restore(), 300);
            CHECKS.due("the last letter", words.at(299), 0);
        });
        CHECKS.test("promise 14: keep leaves the state, the history and the text", () -> {
            for (Side side : Side.values()) {
                if (side != Side.SNAPSHOT && side != Side.SNAPSHOT_PIECE) {
                    CHECKS.due(side.name(), side.of(CHANGED.then(MorphWords::keep).get()), side.of(CHANGED.get()));
                }
            }
        });
        CHECKS.test("promise 14: keep, in place of the snapshot that was", () -> {
            MorphWords words = CHANGED.get();
            CHECKS.due("keep", words.keep(), 1);
            words.start(0);
            words.restore();
            CHECKS.due("the state", Words.state(words), "c;ab;c;cc d 1@0");
        });
        CHECKS.test("promise 14: keep twice, the same state", () -> {
            MorphWords words = KEPT.get();
            CHECKS.due("keep", words.keep(), 5);
            words.start(0);
            words.restore();
            CHECKS.due("the state", Words.state(words), KEPT_STATE);
        });
    }

    private static void restore() {
        CHECKS.leaves("promise 15: restore, no snapshot: NONE", FRESH, MorphWords::restore, NONE);
        CHECKS.leaves("promise 15: restore, no snapshot, but a history: NONE", started(6), MorphWords::restore, NONE);
        CHECKS.acts("promise 15: restore, to another state", CHANGED, MorphWords::restore, 5, KEPT_STATE);
        CHECKS.acts("promise 15: restore, to the state that is, an act too", KEPT, MorphWords::restore, 5, KEPT_STATE);
        CHECKS.acts("promise 15: restore, to the state of a new object",
            Scene.fresh().then(MorphWords::keep).rule("a=bb").grow(1).piece("b"),
            MorphWords::restore, 1, "a;b;c;d a 0");
        CHECKS.test("promise 15: restore leaves the text", () -> {
            MorphWords words = CHANGED.text("c=dd").get();
            words.restore();
            CHECKS.due("the length of the text", words.count(7), 4);
            CHECKS.due("the text is read", words.readRule(), 1);
            CHECKS.due("the rule", Words.rule(words), "bd;b;dd;cc");
        });
    }

    private static void restoreTwice() {
        CHECKS.acts("promise 15: restore twice", CHANGED.then(MorphWords::restore), MorphWords::restore, 5, KEPT_STATE);
        CHECKS.test("promise 15: restore twice, with acts between that change all of the state", () -> {
            MorphWords words = CHANGED.get();
            words.restore();
            words.swap(0, 1);
            words.grow(2);
            Words.look(words, "dd");
            CHECKS.due("restored again", words.restore(), 5);
            CHECKS.due("the state", Words.state(words), KEPT_STATE);
            words.undo();
            CHECKS.due("the piece before that", words.count(2), 2);
            CHECKS.due("the word before that", Words.word(words), "accacacca");
            CHECKS.due("restored a third time", words.restore(), 5);
            CHECKS.due("the state", Words.state(words), KEPT_STATE);
        });
        CHECKS.test("promise 15: restore, with an act before it that is undone", () -> {
            MorphWords words = KEPT.get();
            words.start(3);
            words.undo();
            CHECKS.due("restored", words.restore(), 5);
            CHECKS.due("the state", Words.state(words), KEPT_STATE);
        });
    }

    private static void countOf(String name, Scene scene, int what, int want) {
        CHECKS.leaves("promise 30: count(" + what + "), " + name, scene, words -> words.count(what), want);
    }

    private static void count() {
        countOf("a word of one letter, the shortest", FRESH, 0, 1);
        countOf("300 letters, the longest word", Scene.full(), 0, 300);
        for (int letter = 0; letter < 4; letter++) {
            int own = letter;
            countOf("letter " + own + " alone", Scene.laden().word("" + (char) ('a' + own)), 1, 1 << own);
        }
        countOf("all four letters", Scene.laden().word("aabcd"), 1, 15);
        countOf("letters of images do not count", Scene.laden().rule("a=bcd"), 1, 1);
        countOf("a letter at the last of 300 places", Scene.hundred().rule("a=aaa;b=aad").grow(1), 1, 9);
        countOf("4 letters of images, the fewest", FRESH, 5, 4);
        countOf("32 letters of images, the most",
            Scene.laden().rule("a=aaaaaaaa;b=bbbbbbbb;c=cccccccc;d=dddddddd"), 5, 32);
        countOf("an empty history", FRESH, 6, 0);
        countOf("one state", started(1), 6, 1);
        countOf("4 states, the most", started(4), 6, 4);
        countOf("4 states behind 5 acts", started(5), 6, 4);
        countOf("an empty text", FRESH, 7, 0);
        countOf("60 characters, the longest text", FULL_TEXT, 7, 60);
        countOf("60 characters and one more that was refused", FULL_TEXT.then(words -> words.type('a')), 7, 60);
    }

    private static void countOfPieces() {
        Scene word = Scene.laden().word("abab");
        piecesOf("no piece is looked for: 0, NONE and NONE", word, 0, NONE, NONE);
        piecesOf("no piece is looked for, a new object: 0, NONE and NONE", FRESH, 0, NONE, NONE);
        piecesOf("a piece that does not come: no NONE", word.piece("c"), 1, 0, 0);
        piecesOf("a piece that comes once", word.piece("bab"), 3, 1, 0);
        piecesOf("a piece that comes twice", word.piece("ab"), 2, 2, 1);
        piecesOf("a piece that overlaps itself", Scene.laden().word("aaaa").piece("aa"), 2, 3, 1);
        piecesOf("a piece that is longer than the word", word.piece("ababa"), 5, 0, 0);
        piecesOf("a piece of 20 letters, the longest", word.piece("d".repeat(20)), 20, 0, 0);
        piecesOf("a word of one letter", Scene.laden().piece("a"), 1, 1, 0);
        piecesOf("five different returns", Scene.laden().word("aabacadabba").piece("a"), 1, 6, 5);
        piecesOf("300 places", Scene.full().piece("a"), 1, 300, 1);
        piecesOf("a piece that went when it was undone", word.piece("ab").then(MorphWords::undo), 0, NONE, NONE);
    }

    private static void piecesOf(String name, Scene scene, int... due) {
        for (int i = 0; i < due.length; i++) {
            countOf(name, scene, 2 + i, due[i]);
        }
    }

    private static void countArguments() {
        for (int bad : Words.outside(0, 7)) {
            countOf("BAD_VALUE", KEPT, bad, BAD_VALUE);
            countOf("BAD_VALUE, and no piece is looked for", FRESH, bad, BAD_VALUE);
        }
    }

    private static void calls() {
        CHECKS.test("an object is used for 512 calls: the last ones answer as the first ones did", () -> {
            MorphWords words = new MorphWords();
            for (int call = 0; call < 500; call++) {
                words.start((call + 1) % 4);
            }
            CHECKS.due("call 501", words.at(0), 0);
            CHECKS.due("call 502", words.count(6), 4);
            CHECKS.due("call 503", words.type('d'), 1);
            CHECKS.due("call 504", words.look(), 0);
            CHECKS.due("call 505", words.undo(), 3);
            CHECKS.due("call 506", words.undo(), 2);
            CHECKS.due("call 507", words.look(), 1);
            CHECKS.due("call 508", words.keep(), 1);
            CHECKS.due("call 509", words.start(2), 1);
            CHECKS.due("call 510", words.restore(), 1);
            CHECKS.due("call 511", words.comes(0), 0);
            CHECKS.due("call 512", words.count(6), 4);
        });
    }
}
