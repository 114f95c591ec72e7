import com.sun.management.ThreadMXBean;
import java.io.IOException;
import java.lang.management.ManagementFactory;
import java.lang.reflect.Field;
import java.lang.reflect.Member;
import java.lang.reflect.Method;
import java.lang.reflect.Modifier;
import java.nio.file.Files;
import java.nio.file.Path;
import java.util.ArrayList;
import java.util.Arrays;
import java.util.HashSet;
import java.util.List;
import java.util.Set;
import java.util.regex.Matcher;
import java.util.regex.Pattern;

/** The face of the class, and those rules of the language that a machine can see. */
public final class RulesTest {
    private static final String[] FACE = {
        "boolean hill(int, int)", "int scope(int)", "boolean turn(int, boolean)", "boolean lend(int, boolean)",
        "int undo()", "int feed(int, int, int, int, int)", "int end(int)", "int text()", "int fault(int)",
        "boolean by(int)", "int prior(int)", "int sees(int, boolean, int, int, boolean)", "int report(int, int, int)",
        "int forget()", "long weight(int, int)", "long odds(int, int, int, int, int)", "int likely(int)",
        "long sure(int, int, int)", "int ask(int, boolean, int)", "int eighth(int)", "long does(int, int)",
        "int spied(int, int, int, int, int)", "int image()", "int back()", "int about(int)"};
    private static final int MOST_LINES = 60;
    private static final int MOST_CLASSES = 12;
    private static final int MOST_FIELDS = 20;
    private static final int MOST_PARAMETERS = 7;
    private static final int ROUNDS = 100;

    private final Checks checks = new Checks();

    public static void main(String[] args) throws IOException {
        RulesTest test = new RulesTest();
        test.face();
        test.members();
        test.source(Files.readString(Path.of(System.getProperty("wrongend.source", "src/main/java/WrongEnd.java"))));
        test.noObjects();
        test.checks.finish("RulesTest");
    }

    private void holds(String what, boolean is) {
        checks.due(what, is, true);
    }

    private void face() {
        holds("public and final", WrongEnd.class.getModifiers() == (Modifier.PUBLIC | Modifier.FINAL));
        holds("no package", WrongEnd.class.getPackageName().isEmpty());
        Set<String> methods = new HashSet<>();
        for (Method method : WrongEnd.class.getDeclaredMethods()) {
            if (!Modifier.isPrivate(method.getModifiers())) {
                String types = Arrays.stream(method.getParameterTypes()).map(Class::getName).reduce((a, b) -> a + ", " + b).orElse("");
                methods.add(method.getReturnType() + " " + method.getName() + "(" + types + ")");
            }
        }
        holds("the methods of the face alone: " + methods, methods.equals(Set.of(FACE)));
        List<Field> fields = new ArrayList<>();
        for (Field field : WrongEnd.class.getDeclaredFields()) {
            if (!Modifier.isPrivate(field.getModifiers())) {
                fields.add(field);
            }
        }
        holds("NONE alone: " + fields, fields.size() == 1 && fields.get(0).getName().equals("NONE"));
        holds("one constructor", WrongEnd.class.getDeclaredConstructors().length == 1);
    }

    private void members() {
        Set<String> names = new HashSet<>();
        for (Method method : WrongEnd.class.getMethods()) {
            names.add(method.getName());
        }
        List<Class<?>> classes = new ArrayList<>(List.of(WrongEnd.class.getDeclaredClasses()));
        for (Class<?> inside : classes) {
            holds(inside + " is static", Modifier.isStatic(inside.getModifiers()));
            for (Method method : inside.getDeclaredMethods()) {
                holds(method + " bears no name of the face", !names.contains(method.getName()));
            }
        }
        for (Method method : WrongEnd.class.getDeclaredMethods()) {
            boolean hidden = Modifier.isPrivate(method.getModifiers());
            holds(method + " bears no name of the face", !hidden || !names.contains(method.getName()));
        }
        classes.add(WrongEnd.class);
        holds("classes", classes.size() <= MOST_CLASSES);
        for (Class<?> one : classes) {
            fields(one);
            for (Method method : one.getDeclaredMethods()) {
                holds(method + " has few parameters", method.getParameterCount() <= MOST_PARAMETERS);
            }
        }
    }

    private void fields(Class<?> one) {
        int own = 0;
        for (Field field : one.getDeclaredFields()) {
            if (isStatic(field)) {
                boolean plain = Set.of(int.class, long.class, boolean.class, char.class, String.class, int[].class,
                        long[].class, char[].class, byte[].class).contains(field.getType());
                holds(field + " is a constant", Modifier.isFinal(field.getModifiers()) && plain);
            } else {
                own++;
            }
        }
        holds(one + " has few fields", own <= MOST_FIELDS);
    }

    private static boolean isStatic(Member member) {
        return Modifier.isStatic(member.getModifiers());
    }

    private void source(String whole) {
        String code = whole.replaceAll("(?s)/\\*.*?\\*/", "").replaceAll("//[^\n]*", "")
                .replaceAll("\"[^\"\n]*\"", "\"\"");
        String words = "throw|throws|try|catch|finally|synchronized|assert|import|package|protected|instanceof|volatile"
                + "|transient|native|record|yield|var|Exception|Error|Thread|System\\.(?!arraycopy)\\w+|\\w+Exact";
        absent(code, "\\b(" + words + ")\\b");
        absent(code, "->|::|\\.\\.\\.|@");
        absent(code, "\\bwhile\\b|\\bdo\\b");
        absent(code, "\\bfor \\(;|;\\s*;");
        absent(code, "[^\\x00-\\x7f]");
        methodLines(code);
    }

    private void absent(String code, String pattern) {
        Matcher matcher = Pattern.compile(pattern).matcher(code);
        holds("none of " + pattern, !matcher.find());
    }

    /** A method's head ends in "{" and stands at one of two depths; it ends at the brace of the same depth. */
    private void methodLines(String code) {
        String[] lines = code.split("\n");
        int from = -1;
        String depth = "";
        for (int i = 0; i < lines.length; i++) {
            Matcher head = Pattern.compile("^( {4}| {8})(?! )[\\w\\[\\] ]+\\(.*\\) \\{$").matcher(lines[i]);
            if (from < 0 && head.find()) {
                from = i;
                depth = head.group(1);
            } else if (from >= 0 && lines[i].equals(depth + "}")) {
                holds("lines of " + lines[from].trim(), i - from + 1 <= MOST_LINES);
                from = -1;
            }
        }
    }

    /** What a call makes stays in the room for good: so none makes anything. */
    private void noObjects() {
        ThreadMXBean threads = (ThreadMXBean) ManagementFactory.getThreadMXBean();
        WrongEnd x = new WrongEnd(4, 4);
        everyCall(x);
        long before = threads.getCurrentThreadAllocatedBytes();
        long none = threads.getCurrentThreadAllocatedBytes() - before;
        before = threads.getCurrentThreadAllocatedBytes();
        for (int i = 0; i < ROUNDS; i++) {
            everyCall(x);
        }
        long made = threads.getCurrentThreadAllocatedBytes() - before - none;
        // One object a round would be 16 bytes a round at least; the virtual machine itself may need a few.
        holds(ROUNDS + " rounds of all calls make " + made + " bytes", made < 16 * ROUNDS);
    }

    private static void everyCall(WrongEnd x) {
        x.hill(3, 4);
        x.scope(5);
        x.turn(0, true);
        x.turn(0, false);
        x.lend(1, true);
        x.lend(1, false);
        x.undo();
        // "sees far+turned*size;"
        x.feed(0x73656573, 0x20666172, 0x2b747572, 0x6e65642a, 0x73697a65);
        x.feed(0x3b000000, 0, 0, 0, 0);
        x.end(21);
        x.text();
        x.fault(0);
        x.by(0);
        x.prior(8);
        x.sees(0, true, 9, 10, false);
        x.report(0, 1, 3);
        x.weight(9, 1);
        x.odds(1, 2, 3, 1, 0);
        x.likely(1);
        x.sure(0, 3, 5);
        x.ask(3, true, 1);
        x.ask(3, false, 0);
        x.eighth(4);
        x.does(5, 1);
        x.spied(5, 6, 7, 8, 9);
        x.image();
        x.forget();
        x.back();
        x.about(4);
    }
}
