import java.lang.reflect.Constructor;
import java.lang.reflect.Field;
import java.lang.reflect.Member;
import java.lang.reflect.Method;
import java.lang.reflect.Modifier;
import java.util.Arrays;
import java.util.List;
import java.util.TreeSet;

/** The document's face: its constants, its constructor, its methods, and no other member. */
public final class FaceTest {
    private static final Checks CHECKS = new Checks();
    private static final List<String> FACE = List.of(
        "readRule()", "square()", "shift(boolean)", "swap(int,int)", "start(int)", "grow(int)", "cut(int)",
        "derive()", "look()", "type(char)", "clearText()", "undo()", "keep()", "restore()",
        "image(int,int)", "rule(int,int)", "lengthBehind(int,int)", "countBehind(int,int,int)", "mixing()",
        "at(int)", "pieces(int,int)", "balance(int,int)", "share(int,int)", "run(int)", "mirrored(int)",
        "comes(int)", "returns(int,int)", "row(int)", "count(int)");

    private FaceTest() {
    }

    public static void main(String[] args) {
        CHECKS.test("the constants", FaceTest::constants);
        CHECKS.test("the methods", FaceTest::methods);
        CHECKS.test("no other member", FaceTest::noOther);
        CHECKS.end();
    }

    private static void constants() {
        CHECKS.due("UNKNOWN", MorphWords.UNKNOWN, -1);
        CHECKS.due("BAD_VALUE", MorphWords.BAD_VALUE, -2);
        CHECKS.due("FULL", MorphWords.FULL, -3);
        CHECKS.due("NOT_POSSIBLE", MorphWords.NOT_POSSIBLE, -4);
        CHECKS.due("NONE", MorphWords.NONE, -5);
    }

    private static boolean isOpen(Member member) {
        return !Modifier.isPrivate(member.getModifiers()) && !member.isSynthetic();
    }

    private static void methods() {
        TreeSet<String> found = new TreeSet<>();
        for (Method method : MorphWords.class.getDeclaredMethods()) {
            if (isOpen(method)) {
                List<String> kinds = Arrays.stream(method.getParameterTypes()).map(Class::getName).toList();
                found.add(method.getName() + "(" + String.join(",", kinds) + ")");
                CHECKS.due("kind of " + method.getName(), method.getReturnType().getName(), "int");
                CHECKS.due("modifiers of " + method.getName(), method.getModifiers(), Modifier.PUBLIC);
            }
        }
        CHECKS.due("the methods", found.toString(), new TreeSet<>(FACE).toString());
    }

    private static void noOther() {
        int open = Modifier.PUBLIC | Modifier.FINAL;
        CHECKS.due("the class's modifiers", MorphWords.class.getModifiers(), open);
        TreeSet<String> fields = new TreeSet<>();
        for (Field field : MorphWords.class.getDeclaredFields()) {
            if (isOpen(field)) {
                fields.add(field.getName());
                CHECKS.due("modifiers of " + field.getName(), field.getModifiers(), open | Modifier.STATIC);
            }
        }
        CHECKS.due("the open fields", fields.toString(), "[BAD_VALUE, FULL, NONE, NOT_POSSIBLE, UNKNOWN]");
        Constructor<?>[] constructors = MorphWords.class.getDeclaredConstructors();
        CHECKS.due("constructors", constructors.length, 1);
        CHECKS.due("the constructor's modifiers", constructors[0].getModifiers(), Modifier.PUBLIC);
        CHECKS.due("its arguments", constructors[0].getParameterCount(), 0);
        for (Class<?> inside : MorphWords.class.getDeclaredClasses()) {
            boolean fits = Modifier.isStatic(inside.getModifiers()) && !Modifier.isPublic(inside.getModifiers());
            CHECKS.due(inside.getName() + " is static and not public", fits ? 1 : 0, 1);
        }
    }
}
