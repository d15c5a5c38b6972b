import java.lang.reflect.Constructor;
import java.lang.reflect.Field;
import java.lang.reflect.Method;
import java.lang.reflect.Modifier;
import java.util.Set;
import java.util.TreeSet;

/** The public face, as the document tells it and rule 1 of LANGUAGE.md asks for it. */
public final class FaceTest {
    private static final Class<?> GATE = PasswordGate.class;
    private static final Set<String> FACE = Set.of(
        "boolean feed(int, int, int, int, int)", "boolean end(int)", "int hash()", "int group()", "int times()",
        "int result(int) throws NoSuchElementException", "int enroll(int)", "int begin(int, int)", "int answer(int)",
        "int finish(int)", "int accept(int)", "int wire(int, int, int) throws NoSuchElementException",
        "boolean tamper(int, int, int, int)", "int key(int, int, int) throws NoSuchElementException");

    public static void main(String[] args) {
        Suite suite = new Suite("FaceTest", args);
        suite.test("the class is public and final, and in no package", FaceTest::gate);
        suite.test("the face has the document's methods and no other", FaceTest::methods);
        suite.test("NONE is public, static, final and -1, and no other field is to be seen", FaceTest::fields);
        suite.test("one constructor, public, of a seed", FaceTest::constructors);
        suite.test("the classes inside are private or package-visible, and static", FaceTest::inside);
        suite.test("no method inside bears the name of a public one", FaceTest::names);
        suite.close();
    }

    private static void check(String what, boolean good) {
        Both.due(what, good, true);
    }

    private static void gate() {
        check("public", Modifier.isPublic(GATE.getModifiers()));
        check("final", Modifier.isFinal(GATE.getModifiers()));
        check("no package", GATE.getPackageName().isEmpty());
        check("of Object alone", GATE.getSuperclass() == Object.class && GATE.getInterfaces().length == 0);
    }

    private static void methods() {
        Set<String> face = new TreeSet<>();
        for (Method method : GATE.getDeclaredMethods()) {
            if (!Modifier.isPrivate(method.getModifiers())) {
                face.add(tell(method));
                check(method + " is public and no static one",
                    Modifier.isPublic(method.getModifiers()) && !Modifier.isStatic(method.getModifiers()));
            }
        }
        check("the face is " + face, face.equals(FACE));
    }

    private static String tell(Method method) {
        StringBuilder out = new StringBuilder(method.getReturnType().getName()).append(' ').append(method.getName());
        String between = "(";
        for (Class<?> type : method.getParameterTypes()) {
            out.append(between).append(type.getName());
            between = ", ";
        }
        out.append(method.getParameterCount() == 0 ? "()" : ")");
        for (Class<?> type : method.getExceptionTypes()) {
            out.append(" throws ").append(type.getSimpleName());
        }
        return out.toString();
    }

    private static void fields() {
        int seen = 0;
        for (Field field : GATE.getDeclaredFields()) {
            if (!Modifier.isPrivate(field.getModifiers())) {
                seen++;
                check(field.toString(), field.toString().equals("public static final int PasswordGate.NONE"));
            }
        }
        Both.due("fields", seen, 1);
        Both.due("NONE", PasswordGate.NONE, -1);
    }

    private static void constructors() {
        Constructor<?>[] all = GATE.getDeclaredConstructors();
        Both.due("constructors", all.length, 1);
        Both.due("it", all[0].toString(), "public PasswordGate(int)");
    }

    private static void inside() {
        for (Class<?> type : GATE.getDeclaredClasses()) {
            int modifiers = type.getModifiers();
            check(type + " is static", Modifier.isStatic(modifiers));
            check(type + " is not to be seen", !Modifier.isPublic(modifiers) && !Modifier.isProtected(modifiers));
        }
    }

    private static void names() {
        Set<String> names = new TreeSet<>();
        for (String told : FACE) {
            names.add(told.substring(told.indexOf(' ') + 1, told.indexOf('(')));
        }
        for (Method method : GATE.getDeclaredMethods()) {
            check(method.toString(), !Modifier.isPrivate(method.getModifiers()) || !names.contains(method.getName()));
        }
        for (Class<?> type : GATE.getDeclaredClasses()) {
            for (Method method : type.getDeclaredMethods()) {
                check(method.toString(), !names.contains(method.getName()));
            }
        }
    }
}
