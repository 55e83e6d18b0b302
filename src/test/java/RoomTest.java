import java.lang.management.ManagementFactory;

/** The one room in which all calls live: calls make no objects, and a new object stays small. */
public final class RoomTest {
    private static final Checks CHECKS = new Checks();
    private static final com.sun.management.ThreadMXBean THREADS =
        (com.sun.management.ThreadMXBean) ManagementFactory.getThreadMXBean();

    private RoomTest() {
    }

    public static void main(String[] args) {
        CHECKS.test("a new object takes little room", RoomTest::newObject);
        CHECKS.test("calls make no objects", RoomTest::calls);
        CHECKS.end();
    }

    private static long taken() {
        return THREADS.getThreadAllocatedBytes(Thread.currentThread().getId());
    }

    private static void newObject() {
        new MorphWords();
        long before = taken();
        MorphWords words = new MorphWords();
        long bytes = taken() - before;
        // 5,000 numbers at the most and 200 objects.
        CHECKS.due("at most 28000 bytes, but " + bytes, bytes <= 28000 ? 1 : 0, 1);
        CHECKS.due("the object is used", words.count(0), 1);
    }

    private static void calls() {
        all(new MorphWords());
        MorphWords words = new MorphWords();
        long before = taken();
        int used = all(words);
        long bytes = taken() - before;
        // Less than one object a call, with some room for what the measuring itself takes.
        CHECKS.due("at most 1000 bytes for " + used + " calls, but " + bytes, bytes <= 1000 ? 1 : 0, 1);
        CHECKS.due("all calls within the document's 512", used <= 512 ? 1 : 0, 1);
    }

    /** Calls every method, with the word as long as it can be; answers how many calls it took. */
    private static int all(MorphWords words) {
        int calls = 0;
        String rule = "a=ab;b=ba";
        for (int i = 0; i < rule.length(); i++) {
            words.type(rule.charAt(i));
        }
        words.readRule();
        words.grow(20);
        words.clearText();
        words.type('a');
        words.look();
        words.keep();
        calls += rule.length() + 6;
        for (int i = 0; i < 11; i++) {
            calls += act(words, i) + tell(words, i);
        }
        return calls;
    }

    private static int act(MorphWords words, int i) {
        words.cut(299 - i);
        words.derive();
        words.start(i % 4);
        words.undo();
        words.square();
        words.shift(i % 2 == 0);
        words.swap(0, 1);
        words.restore();
        return 8;
    }

    private static int tell(MorphWords words, int i) {
        for (int what = 0; what < 4; what++) {
            words.pieces(1 + i, what);
            words.rule(what, what);
            words.count(what + i);
            words.run(what);
        }
        words.image(i % 4, 0);
        words.lengthBehind(0, 3 * i);
        words.countBehind(0, 1, 3 * i);
        words.mixing();
        words.at(i);
        words.balance(0, 20 * i + 1);
        words.share(0, i % 2);
        words.mirrored(i % 2);
        words.comes(i);
        words.returns(0, i % 3);
        words.row(i);
        return 27;
    }
}
