import java.io.IOException;
import java.io.PrintWriter;
import java.io.StringWriter;
import java.lang.reflect.Field;
import java.lang.reflect.Method;
import java.lang.reflect.Modifier;
import java.nio.file.Files;
import java.nio.file.Path;
import java.util.ArrayList;
import java.util.HashMap;
import java.util.List;
import java.util.Map;
import java.util.Set;
import java.util.TreeSet;
import java.util.regex.Matcher;
import java.util.regex.Pattern;
import java.util.spi.ToolProvider;

/** The rules of LANGUAGE.md that the source, the compiled classes or their code can show. */
public final class RulesTest {
    private static final Path SOURCE = Path.of("src/main/java/PasswordGate.java");
    /** Of the library's methods that rule 4 lists, those that the program calls; another one is added here by name. */
    private static final Set<String> LIBRARY = Set.of(
        "java/lang/Object.\"<init>\":()V",
        "java/lang/String.length:()I",
        "java/lang/String.charAt:(I)C",
        "java/lang/System.arraycopy:(Ljava/lang/Object;ILjava/lang/Object;II)V",
        "java/lang/Math.min:(II)I",
        "java/util/NoSuchElementException.\"<init>\":()V");
    private static final Set<String> THROWING = Set.of("PasswordGate.result", "PasswordGate.wire", "PasswordGate.key");
    private static final Pattern INVOKED = Pattern.compile("invoke(?:virtual|static|special|interface) .*Method (\\S+)");
    private static final Pattern LINE = Pattern.compile("line (\\d+): \\d+");
    private static final List<Code> CODES = new ArrayList<>();

    /** What javap tells of a method: the lines of its instructions, and what it calls. */
    private static final class Code {
        final String type;
        final String name;
        final List<String> lines = new ArrayList<>();
        final List<String> calls = new ArrayList<>();
        int first = Integer.MAX_VALUE;
        int last;

        Code(String type, String name) {
            this.type = type;
            this.name = name;
        }

        String full() {
            return type + "." + name;
        }
    }

    public static void main(String[] args) throws IOException {
        List<String> source = Files.readAllLines(SOURCE);
        for (Class<?> type : classes()) {
            readCode(type.getName());
        }
        Suite suite = new Suite("RulesTest", args);
        suite.test("the code was read", () -> Both.due("methods", CODES.size() > 60, true));
        suite.test("rules 2, 6, 13: no lambda, method reference, synchronized, assert, finally, try", () -> words(source));
        suite.test("rule 4: only what the library's list has", RulesTest::library);
        suite.test("rule 5: static fields are final, of the types that it lists", RulesTest::statics);
        suite.test("rule 5: arrays that are constants are never changed", () -> constants(source));
        suite.test("rule 6: thrown where the document says it alone, and in no constructor", RulesTest::thrown);
        suite.test("rule 8, 11: no recursion, and calls at most eight deep", RulesTest::depth);
        suite.test("rule 11: at most seven parameters", RulesTest::parameters);
        suite.test("rule 11: methods of some sixty lines", RulesTest::lengths);
        suite.test("rule 11: some twelve classes of some twenty fields", RulesTest::sizes);
        suite.test("rule 12: rows are made in constructors alone", RulesTest::made);
        suite.close();
    }

    private static void check(String what, boolean good) {
        Both.due(what, good, true);
    }

    private static List<Class<?>> classes() {
        List<Class<?>> all = new ArrayList<>();
        all.add(PasswordGate.class);
        all.addAll(List.of(PasswordGate.class.getDeclaredClasses()));
        return all;
    }

    /** Cuts what javap prints into methods. */
    private static void readCode(String type) {
        StringWriter out = new StringWriter();
        ToolProvider javap = ToolProvider.findFirst("javap").orElseThrow();
        int code = javap.run(new PrintWriter(out), new PrintWriter(System.out),
            "-c", "-p", "-l", "-s", "-cp", System.getProperty("java.class.path"), type);
        Both.due("javap " + type, code, 0);
        String header = "";
        Code told = null;
        for (String line : out.toString().split("\n")) {
            if (line.startsWith("  ") && !line.startsWith("   ")) {
                header = line.strip();
            } else if (line.startsWith("    descriptor: (")) {
                told = new Code(type, nameIn(header, type) + ":" + line.substring("    descriptor: ".length()));
                CODES.add(told);
            } else if (told != null) {
                read(told, line.strip());
            }
        }
    }

    private static String nameIn(String header, String type) {
        if (!header.contains("(")) {
            return "<clinit>";
        }
        String ahead = header.substring(0, header.indexOf('('));
        String name = ahead.substring(ahead.lastIndexOf(' ') + 1);
        return name.equals(type) ? "\"<init>\"" : name;
    }

    private static void read(Code told, String line) {
        Matcher invoked = INVOKED.matcher(line);
        if (invoked.find()) {
            String called = invoked.group(1);
            told.calls.add(called.contains(".") ? called : told.type + "." + called);
        }
        Matcher number = LINE.matcher(line);
        if (number.find()) {
            told.first = Math.min(told.first, Integer.parseInt(number.group(1)));
            told.last = Math.max(told.last, Integer.parseInt(number.group(1)));
        }
        told.lines.add(line);
    }

    private static String plain(Code code) {
        return code.full().substring(0, code.full().indexOf(':'));
    }

    private static void words(List<String> source) {
        for (String line : source) {
            for (String word : new String[] {"->", "::", "synchronized", "assert ", "package ", "finally", "try ",
                "Exact(", "native ", "volatile ", "strictfp", "instanceof", "double ", "float "}) {
                check("no " + word + " in " + line, !line.contains(word));
            }
            check(line, !line.startsWith("import ") || line.equals("import java.util.NoSuchElementException;"));
        }
        for (Code code : CODES) {
            for (String line : code.lines) {
                check(code.full() + " " + line, !line.contains("invokedynamic") && !line.contains("monitorenter"));
            }
        }
    }

    private static void library() {
        for (Code code : CODES) {
            for (String call : code.calls) {
                check(code.full() + " calls " + call, call.startsWith("PasswordGate") || LIBRARY.contains(call));
            }
        }
    }

    private static void statics() {
        Set<Class<?>> fit = Set.of(int.class, long.class, boolean.class, char.class, String.class,
            int[].class, long[].class, char[].class, byte[].class);
        for (Class<?> type : classes()) {
            for (Field field : type.getDeclaredFields()) {
                if (Modifier.isStatic(field.getModifiers())) {
                    check(field + " is final", Modifier.isFinal(field.getModifiers()));
                    check(field + " is of a type for constants", fit.contains(field.getType()));
                }
            }
        }
    }

    /** No constant stands ahead of an assignment to one of its places, nor where the field's methods write. */
    private static void constants(List<String> source) {
        Set<String> arrays = new TreeSet<>();
        for (Class<?> type : classes()) {
            for (Field field : type.getDeclaredFields()) {
                if (Modifier.isStatic(field.getModifiers()) && field.getType().isArray()) {
                    arrays.add(field.getName());
                }
            }
        }
        check("there are such arrays", arrays.size() > 5);
        String names = "(?:[A-Za-z]+\\.)?(?:" + String.join("|", arrays) + ")";
        Pattern placed = Pattern.compile("\\b" + names + "\\[[^\\]]*\\]\\s*[-+*/&|^<>]*=[^=]");
        Pattern written = Pattern.compile(
            "\\b(?:add|subtract|negate|copy|multiply|square|load)\\(" + names + ",");
        for (String line : source) {
            check(line, !placed.matcher(line).find() && !written.matcher(line).find());
        }
    }

    private static void thrown() {
        for (Code code : CODES) {
            long throwing = code.lines.stream().filter(line -> line.endsWith(": athrow")).count();
            Both.due(code.full() + " throws", throwing, THROWING.contains(plain(code)) ? 1 : 0);
        }
    }

    private static void depth() {
        Map<String, Code> byName = new HashMap<>();
        for (Code code : CODES) {
            byName.put(code.full(), code);
        }
        int deepest = 0;
        for (Code code : CODES) {
            deepest = Math.max(deepest, depthOf(code.full(), byName, 0));
        }
        check("calls go " + deepest + " deep", deepest >= 3 && deepest <= 8);
    }

    private static int depthOf(String name, Map<String, Code> byName, int above) {
        if (above > 20) {
            return above;
        }
        Code code = byName.get(name);
        int deepest = 0;
        if (code != null) {
            for (String call : new TreeSet<>(code.calls)) {
                deepest = Math.max(deepest, depthOf(call, byName, above + 1));
            }
        }
        return deepest + 1;
    }

    private static void parameters() {
        for (Class<?> type : classes()) {
            for (Method method : type.getDeclaredMethods()) {
                check(method.toString(), method.getParameterCount() <= 7);
            }
        }
    }

    private static void lengths() {
        for (Code code : CODES) {
            if (!code.name.startsWith("<clinit>") && !code.name.startsWith("\"<init>\"")) {
                check(code.full() + " has " + (code.last - code.first + 1) + " lines", code.last - code.first < 60);
            }
        }
    }

    private static void sizes() {
        check("classes", classes().size() <= 12);
        for (Class<?> type : classes()) {
            long fields = List.of(type.getDeclaredFields()).stream()
                .filter(field -> !Modifier.isStatic(field.getModifiers())).count();
            check(type + " has " + fields + " fields", fields <= 20);
        }
    }

    private static void made() {
        Pattern makes = Pattern.compile(": (?:new|newarray|anewarray|multianewarray)\\s");
        for (Code code : CODES) {
            boolean constructs = code.name.startsWith("<clinit>") || code.name.startsWith("\"<init>\"");
            for (String line : code.lines) {
                boolean exception = line.contains("NoSuchElementException") && THROWING.contains(plain(code));
                check(code.full() + " " + line, constructs || exception || !makes.matcher(line).find());
            }
        }
    }
}
