import java.io.IOException;
import java.lang.reflect.Constructor;
import java.lang.reflect.Field;
import java.lang.reflect.Method;
import java.lang.reflect.Modifier;
import java.nio.file.Files;
import java.nio.file.Path;
import java.util.Set;
import java.util.TreeSet;

/** The document's face, and those rules of LANGUAGE.md that the compiled class shows. */
public final class FaceTest {
    private static final Set<String> FACE = Set.of(
        "boolean feed(int, int, int, int, int)", "boolean end(int)", "int hash()", "int group()", "int times()",
        "int result(int) throws NoSuchElementException", "int enroll(int)", "int begin(int, int)", "int answer(int)",
        "int finish(int)", "int accept(int)", "int wire(int, int, int) throws NoSuchElementException",
        "boolean tamper(int, int, int, int)", "int key(int, int, int) throws NoSuchElementException");

    private static int wrong;

    private static void check(String what, boolean good) {
        if (!good) {
            wrong++;
            System.out.println(what);
        }
    }

    public static void main(String[] args) throws IOException {
        Class<?> gate = PasswordGate.class;
        check("the class is public and final",
            Modifier.isPublic(gate.getModifiers()) && Modifier.isFinal(gate.getModifiers()));
        Set<String> face = new TreeSet<>();
        Set<String> names = new TreeSet<>();
        for (Method method : gate.getDeclaredMethods()) {
            if (!Modifier.isPrivate(method.getModifiers())) {
                face.add(tell(method));
                names.add(method.getName());
            }
        }
        check("the face is " + face, face.equals(FACE));
        for (Field field : gate.getDeclaredFields()) {
            check("field " + field.getName(),
                Modifier.isPrivate(field.getModifiers()) || field.getName().equals("NONE"));
        }
        Constructor<?>[] constructors = gate.getDeclaredConstructors();
        check("one public constructor", constructors.length == 1 && Modifier.isPublic(constructors[0].getModifiers())
            && constructors[0].getParameterCount() == 1 && constructors[0].getParameterTypes()[0] == int.class);
        inside(gate, names);
        source();
        System.out.println("FaceTest: " + (wrong == 0 ? "all is as due" : wrong + " things are not as due"));
        if (wrong != 0) {
            System.exit(1);
        }
    }

    private static String tell(Method method) {
        StringBuilder out = new StringBuilder(method.getReturnType().getName()).append(' ').append(method.getName());
        String between = "(";
        for (Class<?> type : method.getParameterTypes()) {
            out.append(between).append(type.getName());
            between = ", ";
        }
        out.append(method.getParameterCount() == 0 ? "()" : ")");
        for (Class<?> type : method.getExceptionTypes()) {
            out.append(" throws ").append(type.getSimpleName());
        }
        return out.toString();
    }

    /** Rules 1, 5 and 11. */
    private static void inside(Class<?> gate, Set<String> names) {
        Class<?>[] classes = gate.getDeclaredClasses();
        check("at most twelve classes", classes.length + 1 <= 12);
        for (Class<?> type : classes) {
            check(type + " is private or package-visible, and static", Modifier.isStatic(type.getModifiers())
                && !Modifier.isPublic(type.getModifiers()) && !Modifier.isProtected(type.getModifiers()));
            for (Method method : type.getDeclaredMethods()) {
                check(method + " bears no name of the face", !names.contains(method.getName()));
                check(method + " takes at most seven", method.getParameterCount() <= 7);
            }
            int fields = 0;
            for (Field field : type.getDeclaredFields()) {
                boolean fixed = Modifier.isStatic(field.getModifiers());
                check(field + " is final", !fixed || Modifier.isFinal(field.getModifiers()));
                fields += fixed ? 0 : 1;
            }
            check(type + " has " + fields + " fields", fields <= 20);
        }
    }

    /** Rules 4, 6 and 13, as far as words show them. */
    private static void source() throws IOException {
        for (String line : Files.readAllLines(Path.of("src/main/java/PasswordGate.java"))) {
            if (line.startsWith("import ")) {
                check(line, line.equals("import java.util.NoSuchElementException;"));
            }
            for (String word : new String[] {"->", "::", "synchronized", "assert ", "package ", "finally", "Exact("}) {
                check("no " + word + " in " + line, !line.contains(word));
            }
        }
    }
}
