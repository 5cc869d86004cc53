import java.lang.reflect.Field;
import java.lang.reflect.Method;
import java.lang.reflect.Modifier;
import java.nio.file.Files;
import java.nio.file.Path;
import java.util.ArrayList;
import java.util.Arrays;
import java.util.List;
import java.util.Set;
import java.util.TreeSet;
import java.util.regex.Matcher;
import java.util.regex.Pattern;

/** The rules of LANGUAGE.md that can be seen in the text of the class or in its form; each by its number. */
public final class LanguageTest {
    private static final Path SOURCE = Path.of("src/main/java/ShredStore.java");

    /** What the class uses of the library; a new name has to be held against rule 4 before it comes in here. */
    private static final Set<String> LIBRARY = Set.of("System.arraycopy", "Math.max", "Math.min");

    /** Words and signs that rules 2, 6 and 10 leave out, and those that this class has no need of. */
    private static final String[] LEFT_OUT = {"package", "import", "protected", "finally", "synchronized", "assert",
        "try", "catch", "throw", "throws", "volatile", "native", "transient", "strictfp", "goto", "yield", "double",
        "float", "Object", "String", "equals", "hashCode", "toString", "getClass", "clone"};

    private static final Pattern COMMENT = Pattern.compile("/\\*.*?\\*/|//[^\n]*", Pattern.DOTALL);
    private static final Pattern LIBRARY_CALL = Pattern.compile("\\b([A-Z]\\w*\\.[a-z]\\w*)\\(");
    private static final Pattern METHOD = Pattern.compile("^( +)[a-zA-Z][\\w ]* \\w+\\(.*\\) \\{$");
    private static final Pattern LOOP = Pattern.compile(".*\\b(for|while|do)\\b.*");
    private static final int METHOD_LINES = 60, PARAMETERS = 7, CLASSES = 12, FIELDS = 20;

    private static final Check check = new Check();

    private LanguageTest() {
    }

    public static void main(String[] args) throws Exception {
        String text = COMMENT.matcher(Files.readString(SOURCE)).replaceAll("");
        List<Class<?>> classes = new ArrayList<>(Arrays.asList(ShredStore.class.getDeclaredClasses()));
        theClassesInside(classes);
        classes.add(ShredStore.class);
        noPrivateNameIsPublic(classes);
        staticFieldsAreConstants(classes);
        nothingLeftOutIsUsed(text);
        libraryIsWhatIsListed(text, classes);
        loopsHaveABound(text);
        methodsAreShort(text.lines().toList());
        fewFieldsAndParameters(classes);
        check.end();
    }

    private static void theClassesInside(List<Class<?>> inside) {
        check.sentence("rule 1: classes inside are private or package-visible and static; rule 11: some twelve");
        for (Class<?> one : inside) {
            int modifiers = one.getModifiers();
            check.due(one + " can be seen", Modifier.isPublic(modifiers) || Modifier.isProtected(modifiers), false);
            check.due(one + " is static", Modifier.isStatic(modifiers), true);
            check.due("classes inside " + one, one.getDeclaredClasses().length, 0);
        }
        check.due("some twelve classes at most", inside.size() < CLASSES, true);
        check.due("the package is named", ShredStore.class.getPackageName(), "");
        check.due("class above", ShredStore.class.getSuperclass() == Object.class, true);
        check.due("interfaces", ShredStore.class.getInterfaces().length, 0);
    }

    private static void noPrivateNameIsPublic(List<Class<?>> classes) {
        check.sentence("rule 1: no private method bears the name of a public one");
        Set<String> face = new TreeSet<>();
        for (Method method : ShredStore.class.getDeclaredMethods()) {
            if (Modifier.isPublic(method.getModifiers())) {
                face.add(method.getName());
            }
        }
        for (Class<?> one : classes) {
            for (Method method : one.getDeclaredMethods()) {
                boolean open = Modifier.isPublic(method.getModifiers());
                check.due(method + " has a public name", !open && face.contains(method.getName()), false);
            }
        }
    }

    private static void staticFieldsAreConstants(List<Class<?>> classes) {
        check.sentence("rule 5: static fields are final: constants");
        for (Class<?> one : classes) {
            for (Field field : one.getDeclaredFields()) {
                if (Modifier.isStatic(field.getModifiers())) {
                    check.due(field + " is final", Modifier.isFinal(field.getModifiers()), true);
                    check.due(field + " is a number", field.getType() == int.class || field.getType() == long.class,
                        true);
                }
            }
        }
    }

    private static void nothingLeftOutIsUsed(String text) {
        check.sentence("rules 2, 3, 6, 10: words and signs that are left out");
        for (String word : LEFT_OUT) {
            check.due(word, Pattern.compile("\\b" + word + "\\b").matcher(text).find(), false);
        }
        String[] signs = {"->", "::", "@", "\"", "[][]", "static {", "Exact"};
        for (String sign : signs) {
            check.due(sign, text.contains(sign), false);
        }
    }

    private static void libraryIsWhatIsListed(String text, List<Class<?>> classes) {
        check.sentence("rule 4: the library");
        Set<String> own = new TreeSet<>();
        for (Class<?> one : classes) {
            own.add(one.getSimpleName());
        }
        Matcher call = LIBRARY_CALL.matcher(text);
        while (call.find()) {
            String name = call.group(1);
            boolean known = LIBRARY.contains(name) || own.contains(name.substring(0, name.indexOf('.')));
            check.due(name + " may be called", known, true);
        }
        Matcher made = Pattern.compile("\\bnew (\\w+)\\(").matcher(text);
        while (made.find()) {
            check.due("new " + made.group(1) + " is of an own class", own.contains(made.group(1)), true);
        }
    }

    private static void loopsHaveABound(String text) {
        check.sentence("rule 9: every loop has a counter against a bound");
        for (String line : text.lines().toList()) {
            if (LOOP.matcher(line).matches()) {
                check.due(line.trim(), line.trim().matches("for \\(int \\w+ = .*; \\w+ (<|<=|>=) .*; .*\\) \\{"), true);
            }
        }
    }

    private static void methodsAreShort(List<String> lines) {
        check.sentence("rule 11: methods stay short (some sixty lines)");
        int methods = 0;
        for (int from = 0; from < lines.size(); from++) {
            Matcher head = METHOD.matcher(lines.get(from));
            if (head.matches() && head.group(1).length() <= 8 && !LOOP.matcher(lines.get(from)).matches()) {
                int end = lines.subList(from, lines.size()).indexOf(head.group(1) + "}");
                check.due(lines.get(from).trim() + " is short", end >= 0 && end <= METHOD_LINES, true);
                methods++;
            }
        }
        check.due("methods were found", methods > 80, true);
    }

    private static void fewFieldsAndParameters(List<Class<?>> classes) {
        check.sentence("rule 11: at most seven parameters, some twenty fields beside constants");
        for (Class<?> one : classes) {
            int fields = 0;
            for (Field field : one.getDeclaredFields()) {
                fields += Modifier.isStatic(field.getModifiers()) ? 0 : 1;
            }
            check.due("fields of " + one + ": " + fields, fields <= FIELDS, true);
            for (Method method : one.getDeclaredMethods()) {
                check.due("parameters of " + method, method.getParameterCount() <= PARAMETERS, true);
            }
        }
    }
}
