import java.lang.reflect.Method;
import java.lang.reflect.Modifier;
import java.util.Arrays;
import java.util.Random;
import java.util.TreeMap;

/**
 * Runs of calls, the same ones each time, on the program and on PlainWords: every answer has to be
 * the same, also for arguments far out of range and for texts with faults.
 */
public final class OracleTest {
    private static final int PARTS = 8;
    private static final int RUNS_OF_PART = 100;
    private static final int CALLS = 512;
    private static final int[] FAR = {
        Integer.MIN_VALUE, Integer.MIN_VALUE + 1, -1000000, -301, -33, -2, -1, 4, 5, 8, 20, 21, 30, 31, 32,
        60, 299, 300, 301, 1 << 16, Integer.MAX_VALUE - 1, Integer.MAX_VALUE,
    };
    private static final String[] RULES = {
        "a=ab;b=a", "a=ab;b=ba", "a=abc;b=ac;c=b", "a=ab;b=ac;c=ad;d=a", "a=aba;b=aab;c=a;d=aa",
        "a=ab;b=cd;c=ba;d=dc", "a=b;b=c;c=d;d=a", "a=aaaaaaaa", "a=bb;b=ab;c=cc;d=dd",
        "a=abcdabcd;b=a", "a=ba;b=a;c=ca;d=a", "a=a;b=b;c=c;d=d", "a=aab;b=ab;c=acb;d=adb",
        "a=ba;b=ba;c=bca;d=bda", "a=aa;b=aa;c=aa;d=a", "a=dcba;b=ccba;c=bba;d=a",
    };
    private static final String SIGNS = "abcde=; A`\u0000\u00ff\u2603\uffff";
    private static final TreeMap<String, Method> FACE = new TreeMap<>();
    private static final TreeMap<String, Method> PLAIN = new TreeMap<>();

    private final Random random;
    private final Checks checks;
    private final MorphWords program = new MorphWords();
    private final PlainWords plain = new PlainWords();
    private final StringBuilder told = new StringBuilder();
    private int calls = 0;

    private OracleTest(Checks checks, long seed) {
        this.checks = checks;
        this.random = new Random(seed);
    }

    public static void main(String[] args) {
        for (Method method : MorphWords.class.getDeclaredMethods()) {
            if (Modifier.isPublic(method.getModifiers())) {
                FACE.put(method.getName(), method);
            }
        }
        for (Method method : PlainWords.class.getDeclaredMethods()) {
            if (!Modifier.isPrivate(method.getModifiers())) {
                PLAIN.put(method.getName(), method);
            }
        }
        Checks checks = new Checks();
        for (int part = 0; part < PARTS; part++) {
            int seed = 1000 * part;
            checks.test("all promises: random runs, part " + part, () -> {
                for (int run = 0; run < RUNS_OF_PART; run++) {
                    new OracleTest(checks, seed + run).run();
                }
            });
        }
        checks.end();
    }

    private void run() {
        String[] acts = {"square", "shift", "swap", "start", "grow", "cut", "derive", "undo", "keep", "restore"};
        String[] names = FACE.keySet().toArray(new String[0]);
        while (calls < CALLS) {
            int kind = random.nextInt(20);
            if (kind == 0) {
                type(ruleText());
                call("readRule");
            } else if (kind == 1) {
                type(pieceText());
                call("look");
                askOfPiece();
            } else if (kind == 2) {
                call("grow", 1 + random.nextInt(8));
            } else if (kind < 5) {
                callOfRandom(acts[random.nextInt(acts.length)]);
            } else {
                callOfRandom(names[random.nextInt(names.length)]);
            }
        }
    }

    private void askOfPiece() {
        for (int number = 0; number < 4; number++) {
            call("comes", number);
            call("row", number);
            call("returns", number, random.nextInt(3));
        }
    }

    private void callOfRandom(String name) {
        Class<?>[] kinds = FACE.get(name).getParameterTypes();
        Object[] arguments = new Object[kinds.length];
        for (int i = 0; i < kinds.length; i++) {
            if (kinds[i] == boolean.class) {
                arguments[i] = random.nextBoolean();
            } else if (kinds[i] == char.class) {
                arguments[i] = SIGNS.charAt(random.nextInt(SIGNS.length()));
            } else {
                arguments[i] = number();
            }
        }
        call(name, arguments);
    }

    private int number() {
        int kind = random.nextInt(14);
        if (kind == 0) {
            return FAR[random.nextInt(FAR.length)];
        }
        if (kind < 4) {
            return random.nextInt(24) - 1;
        }
        if (kind == 4) {
            return random.nextInt(303) - 1;
        }
        return random.nextInt(5);
    }

    private void type(String text) {
        call("clearText");
        for (int i = 0; i < text.length(); i++) {
            call("type", text.charAt(i));
        }
    }

    private String letters(int most) {
        StringBuilder letters = new StringBuilder();
        int length = 1 + random.nextInt(most);
        int different = 1 + random.nextInt(4);
        for (int i = 0; i < length; i++) {
            letters.append((char) ('a' + random.nextInt(different)));
        }
        return letters.toString();
    }

    private String ruleText() {
        StringBuilder text = new StringBuilder(RULES[random.nextInt(RULES.length)]);
        if (random.nextInt(3) == 0) {
            text.setLength(0);
            int parts = 1 + random.nextInt(5);
            for (int part = 0; part < parts; part++) {
                text.append(part == 0 ? "" : ";").append((char) ('a' + random.nextInt(4))).append('=');
                text.append(letters(random.nextInt(6) == 0 ? 9 : 4));
            }
        }
        return spoiled(text);
    }

    private String pieceText() {
        String word = plain.word();
        int from = random.nextInt(word.length());
        int most = Math.min(word.length() - from, random.nextInt(8) == 0 ? 21 : 4);
        String piece = random.nextInt(4) == 0 ? letters(4) : word.substring(from, from + 1 + random.nextInt(most));
        return spoiled(new StringBuilder(piece));
    }

    private String spoiled(StringBuilder text) {
        if (random.nextInt(5) == 0) {
            int place = random.nextInt(text.length() + 1);
            char sign = SIGNS.charAt(random.nextInt(SIGNS.length()));
            switch (random.nextInt(3)) {
                case 0 -> text.insert(place, sign);
                case 1 -> text.setLength(place);
                default -> text.append(sign);
            }
        }
        return text.toString();
    }

    private void call(String name, Object... arguments) {
        if (calls >= CALLS) {
            return;
        }
        calls++;
        told.append(name).append(Arrays.toString(arguments)).append(' ');
        int got = answer(FACE.get(name), program, arguments);
        int want = answer(PLAIN.get(name), plain, arguments);
        if (got != want) {
            checks.due(told + "in the end", got, want);
            calls = CALLS;
        }
    }

    private static int answer(Method method, Object of, Object[] arguments) {
        try {
            return (int) method.invoke(of, arguments);
        } catch (ReflectiveOperationException thrown) {
            throw new IllegalStateException(method.getName() + Arrays.toString(arguments), thrown);
        }
    }
}
