import java.lang.reflect.Constructor;
import java.lang.reflect.Field;
import java.lang.reflect.Method;
import java.lang.reflect.Modifier;
import java.util.Arrays;
import java.util.Set;
import java.util.TreeSet;

/** "The public face": the class with its constructor and methods, and nothing else that shows. */
public final class FaceTest {
    private static final String[] METHODS = {
        "int stretch(int)",
        "int mark()",
        "int branch(int)",
        "boolean reach(int)",
        "int lay()",
        "int least()",
        "int place(int)",
        "boolean isLong(int)",
        "int longs()",
        "void clear()",
        "int items()",
        "int marks()",
    };

    private static final Answers ANSWERS = new Answers();

    public static void main(String[] args) {
        classIsPublicAndFinal();
        oneConstructor();
        methodsOfTheFace();
        noPrivateMethodBearsAPublicName();
        noFieldShows();
        ANSWERS.end();
    }

    private static void due(String what, boolean got, boolean want) {
        ANSWERS.due("face: " + what, got, want);
    }

    private static void classIsPublicAndFinal() {
        int modifiers = BranchLengths.class.getModifiers();
        due("public", Modifier.isPublic(modifiers), true);
        due("final", Modifier.isFinal(modifiers), true);
        due("no package", BranchLengths.class.getPackageName().isEmpty(), true);
        due("no class above it", BranchLengths.class.getSuperclass() == Object.class, true);
        ANSWERS.due("face: interfaces", BranchLengths.class.getInterfaces().length, 0);
    }

    private static void oneConstructor() {
        Constructor<?>[] constructors = BranchLengths.class.getDeclaredConstructors();
        ANSWERS.due("face: constructors", constructors.length, 1);
        for (Constructor<?> constructor : constructors) {
            due("constructor is public", Modifier.isPublic(constructor.getModifiers()), true);
            ANSWERS.due("face: constructor's arguments", constructor.getParameterCount(), 0);
        }
    }

    private static void methodsOfTheFace() {
        Set<String> want = new TreeSet<>(Arrays.asList(METHODS));
        Set<String> got = new TreeSet<>();
        for (Method method : BranchLengths.class.getDeclaredMethods()) {
            if (!Modifier.isPrivate(method.getModifiers())) {
                got.add(written(method));
                due(written(method) + " is public", Modifier.isPublic(method.getModifiers()), true);
                due(written(method) + " is static",
                        Modifier.isStatic(method.getModifiers()), false);
            }
        }
        for (String method : want) {
            due(method + " is there", got.contains(method), true);
        }
        for (String method : got) {
            due(method + " is in the document", want.contains(method), true);
        }
    }

    private static String written(Method method) {
        StringBuilder arguments = new StringBuilder();
        for (Class<?> type : method.getParameterTypes()) {
            arguments.append(arguments.length() == 0 ? "" : ", ").append(type.getSimpleName());
        }
        return method.getReturnType().getSimpleName() + " " + method.getName()
                + "(" + arguments + ")";
    }

    /** LANGUAGE.md, 1 */
    private static void noPrivateMethodBearsAPublicName() {
        Set<String> names = new TreeSet<>();
        for (String method : METHODS) {
            names.add(method.substring(method.indexOf(' ') + 1, method.indexOf('(')));
        }
        for (Method method : BranchLengths.class.getDeclaredMethods()) {
            if (Modifier.isPrivate(method.getModifiers())) {
                due("private " + method.getName(), names.contains(method.getName()), false);
            }
        }
    }

    /** The document names no constant; LANGUAGE.md, 5, has static fields final. */
    private static void noFieldShows() {
        for (Field field : BranchLengths.class.getDeclaredFields()) {
            int modifiers = field.getModifiers();
            due(field.getName() + " is private", Modifier.isPrivate(modifiers), true);
            if (Modifier.isStatic(modifiers)) {
                due(field.getName() + " is final", Modifier.isFinal(modifiers), true);
            }
        }
    }
}
