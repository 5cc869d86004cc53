import java.lang.reflect.Constructor;
import java.lang.reflect.Field;
import java.lang.reflect.Method;
import java.lang.reflect.Modifier;
import java.util.Set;
import java.util.TreeSet;

/** The class has the document's face and no other member that can be seen. */
public final class FaceTest {
    private static final String[] FACE = {
        "NONE int", "BAD int", "new 0", "supply(long) boolean", "feed(int) int", "put(int,int) int",
        "shred(int) int", "size(int) int", "at(int,int) int", "cut() boolean", "arm(int) boolean",
        "power() boolean", "disk(int) int", "cell(int) long", "known(long) boolean", "knownAt(int) long",
        "live(int) boolean", "count(int) int"};

    /** The mark of members that the compiler makes. */
    private static final int SYNTHETIC = 0x1000;

    public static void main(String[] args) {
        Check check = new Check();
        check.sentence("the public face");
        Set<String> got = new TreeSet<>();
        for (Field field : ShredStore.class.getDeclaredFields()) {
            addVisible(got, field.getModifiers(), field.getName() + " " + field.getType());
        }
        for (Constructor<?> made : ShredStore.class.getDeclaredConstructors()) {
            addVisible(got, made.getModifiers(), "new " + made.getParameterCount());
        }
        for (Method method : ShredStore.class.getDeclaredMethods()) {
            addVisible(got, method.getModifiers(), signature(method));
        }
        for (String member : FACE) {
            check.due("face has " + member, got.remove("public " + member), true);
        }
        check.due("members beside the face " + got, got.size(), 0);
        check.due("final", Modifier.isFinal(ShredStore.class.getModifiers()), true);
        check.due("NONE", ShredStore.NONE, -1);
        check.due("BAD", ShredStore.BAD, -2);
        check.end();
    }

    private static void addVisible(Set<String> got, int modifiers, String text) {
        if (!Modifier.isPrivate(modifiers) && (modifiers & SYNTHETIC) == 0) {
            got.add((Modifier.isPublic(modifiers) ? "public " : "visible ") + text);
        }
    }

    private static String signature(Method method) {
        StringBuilder text = new StringBuilder(method.getName()).append('(');
        for (Class<?> type : method.getParameterTypes()) {
            text.append(text.charAt(text.length() - 1) == '(' ? "" : ",").append(type.getName());
        }
        return text.append(") ").append(method.getReturnType().getName()).toString();
    }
}
