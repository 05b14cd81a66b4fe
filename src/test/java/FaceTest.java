import java.io.IOException;
import java.lang.reflect.Constructor;
import java.lang.reflect.Executable;
import java.lang.reflect.Field;
import java.lang.reflect.Method;
import java.lang.reflect.Modifier;
import java.nio.charset.StandardCharsets;
import java.nio.file.Files;
import java.nio.file.Path;
import java.util.TreeSet;
import java.util.regex.Matcher;
import java.util.regex.Pattern;

/**
 * The public face: just the constants, the constructor and the methods that the document's section "The public face"
 * shows, with its arguments and exceptions, and the words that the interface says ahead of them.
 */
public final class FaceTest {
    private static final Path DOCUMENT = Path.of("../shared/DOC.md");
    private static final Path SOURCE = Path.of("src/main/java/SkyloadBureau.java");
    private static final Pattern FACE = Pattern.compile("## The public face\\s+```java\n(.*?)```", Pattern.DOTALL);
    private static final Pattern CONSTANTS = Pattern.compile("public static final int ([^;]+);");
    private static final Pattern CALL = Pattern.compile(
        "public (?:(int|boolean|void) )?(\\w+)\\(([^)]*)\\)(?: throws ([^;]+))?;");
    private static final Pattern GROUP = Pattern.compile(
        "Ahead of the calls (.+?) the interface says: (---- [^.]+)\\.");

    // How many the document shows: should its form change, the patterns must not find fewer in silence.
    private static final int CONSTANTS_SHOWN = 7;
    private static final int CALLS_SHOWN = 24;
    private static final int GROUPS_SHOWN = 4;

    private final String document;
    private final String face;
    private final String source;

    private FaceTest() throws IOException {
        document = Files.readString(DOCUMENT, StandardCharsets.UTF_8);
        Matcher found = FACE.matcher(document);
        face = found.find() ? found.group(1) : "";
        source = Files.readString(SOURCE, StandardCharsets.ISO_8859_1);
    }

    public static void main(String[] args) throws IOException, IllegalAccessException {
        FaceTest test = new FaceTest();
        test.theClass();
        test.constants();
        test.calls();
        test.argumentsByTheirNames();
        test.whatTheInterfaceSays();
        Check.finish("FaceTest");
    }

    private void theClass() {
        Class<?> type = SkyloadBureau.class;
        Check.isTrue("the document's class", face.startsWith("public final class SkyloadBureau {"));
        Check.equal("modifiers", type.getModifiers(), Modifier.PUBLIC | Modifier.FINAL);
        Check.isTrue("without a package", type.getPackageName().isEmpty());
        Check.isTrue("no class above it", type.getSuperclass() == Object.class);
        Check.equal("interfaces", type.getInterfaces().length, 0);
        for (Class<?> inside : type.getDeclaredClasses()) {
            int access = inside.getModifiers() & (Modifier.PUBLIC | Modifier.PROTECTED | Modifier.STATIC);
            Check.equal("access of " + inside.getName(), access, Modifier.STATIC);
        }
    }

    private void constants() throws IllegalAccessException {
        TreeSet<String> due = new TreeSet<>();
        for (Matcher line = CONSTANTS.matcher(face); line.find();) {
            for (String constant : line.group(1).split(", ")) {
                due.add("public static final int " + constant);
            }
        }
        TreeSet<String> got = new TreeSet<>();
        for (Field field : SkyloadBureau.class.getDeclaredFields()) {
            if (!Modifier.isPrivate(field.getModifiers())) {
                got.add(Modifier.toString(field.getModifiers()) + " " + field.getType() + " " + field.getName()
                    + " = " + field.getInt(null));
            }
        }
        Check.equal("constants in the document", due.size(), CONSTANTS_SHOWN);
        same("constants", got, due);
    }

    private void calls() {
        TreeSet<String> due = new TreeSet<>();
        for (Matcher call = CALL.matcher(face); call.find();) {
            String type = call.group(1) == null ? "" : call.group(1) + " ";
            String thrown = call.group(4) == null ? "" : call.group(4);
            due.add("public " + type + call.group(2) + "(" + typesOf(call.group(3)) + ")" + thrown);
        }
        TreeSet<String> got = new TreeSet<>();
        for (Constructor<?> made : SkyloadBureau.class.getDeclaredConstructors()) {
            addUnlessPrivate(got, "", made);
        }
        for (Method method : SkyloadBureau.class.getDeclaredMethods()) {
            addUnlessPrivate(got, method.getReturnType().getSimpleName() + " ", method);
        }
        Check.equal("calls in the document", due.size(), CALLS_SHOWN);
        same("calls", got, due);
    }

    private static void addUnlessPrivate(TreeSet<String> calls, String type, Executable call) {
        if (!Modifier.isPrivate(call.getModifiers()) && !call.isSynthetic()) {
            calls.add(Modifier.toString(call.getModifiers()) + " " + type + call.getName()
                + "(" + names(call.getParameterTypes()) + ")" + names(call.getExceptionTypes()));
        }
    }

    private static String typesOf(String arguments) {
        return arguments.replaceAll("(\\w+) \\w+", "$1");
    }

    private static String names(Class<?>[] types) {
        StringBuilder text = new StringBuilder();
        for (Class<?> type : types) {
            text.append(text.length() == 0 ? "" : ", ").append(type.getSimpleName());
        }
        return text.toString();
    }

    /** Class files do not keep the names of arguments, so the program's text is asked. */
    private void argumentsByTheirNames() {
        String inOneLine = source.replaceAll("\\s+", " ");
        for (Matcher call = CALL.matcher(face); call.find();) {
            String head = call.group().replace(";", " {");
            Check.isTrue("the program has " + head, inOneLine.contains(head));
        }
    }

    /** Each group's words stand ahead of its calls, and behind the calls of the group ahead. */
    private void whatTheInterfaceSays() {
        int groups = 0;
        int reached = 0;
        for (Matcher group = GROUP.matcher(document); group.find();) {
            groups++;
            reached = placeBehind("// " + group.group(2) + "\n", reached);
            for (String call : group.group(1).split(", ")) {
                reached = placeBehind(" " + call.replace("`", "") + "(", reached);
            }
        }
        Check.equal("groups in the document", groups, GROUPS_SHOWN);
    }

    private int placeBehind(String text, int reached) {
        int place = source.indexOf(text, reached);
        Check.isTrue("the program has '" + text.trim() + "' in its place", place >= reached);
        return Math.max(place, reached);
    }

    private static void same(String what, TreeSet<String> got, TreeSet<String> due) {
        Check.isTrue(what + " are " + got + ", due are " + due, got.equals(due));
    }
}
