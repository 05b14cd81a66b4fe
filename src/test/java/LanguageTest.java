import java.io.DataInputStream;
import java.io.IOException;
import java.io.InputStream;
import java.lang.reflect.Field;
import java.lang.reflect.Method;
import java.lang.reflect.Modifier;
import java.nio.charset.StandardCharsets;
import java.nio.file.Files;
import java.nio.file.Path;
import java.util.ArrayList;
import java.util.List;
import java.util.Map;
import java.util.Set;
import java.util.TreeMap;
import java.util.TreeSet;
import java.util.regex.Matcher;
import java.util.regex.Pattern;

/** The form of the program by the rules of LANGUAGE.md, as far as its text and its class files show it. */
public final class LanguageTest {
    private static final Path SOURCE = Path.of("src/main/java/SkyloadBureau.java");
    private static final int MOST_PARAMETERS = 7;
    private static final int MOST_LINES = 60;
    private static final int MOST_DEPTH = 8;
    private static final int MOST_CLASSES = 12;
    private static final int MOST_FIELDS = 20;

    // What the program uses of rule 4's list; a name more is to be looked up there first.
    private static final Set<String> LIBRARY = Set.of(
        "java/lang/Object.<init>", "java/lang/Math.max", "java/lang/Math.min",
        "java/util/ArrayList.<init>", "java/util/ArrayList.add", "java/util/ArrayList.get",
        "java/util/ArrayList.size", "java/lang/IllegalStateException.<init>",
        "java/lang/IllegalArgumentException.<init>", "java/lang/IndexOutOfBoundsException.<init>");
    private static final Set<String> NO_WORDS = Set.of(
        "package", "try", "catch", "finally", "synchronized", "assert", "instanceof", "volatile", "native", "equals",
        "hashCode", "toString", "protected", "var", "Object", "Thread", "goto", "static {", "->", "::", "@");
    private static final Pattern METHOD = Pattern.compile(
        "^ +(?:public |private |static |final )*(?:int|boolean|void) (\\w+)\\([^;{]*\\{", Pattern.MULTILINE);

    private final String source;
    private final String code;
    private final List<Class<?>> classes = new ArrayList<>();

    private LanguageTest(String source) {
        this.source = source;
        code = withoutCommentsAndTexts(source);
        classes.add(SkyloadBureau.class);
        classes.addAll(List.of(SkyloadBureau.class.getDeclaredClasses()));
    }

    public static void main(String[] args) throws IOException {
        LanguageTest test = new LanguageTest(Files.readString(SOURCE, StandardCharsets.ISO_8859_1));
        test.rule1ClassesInside();
        test.rule2And6And10Words();
        test.rule3Types();
        test.rule4Library();
        test.rule4Signs();
        test.rule5StaticFields();
        test.rule6Throws();
        test.rule9Loops();
        test.rule8And11Depth();
        test.rule11Sizes();
        Check.finish("LanguageTest");
    }

    private static String withoutCommentsAndTexts(String text) {
        return text.replaceAll("(?s)/\\*.*?\\*/", " ").replaceAll("//[^\n]*", " ").replaceAll("\"[^\"\n]*\"", "TEXT");
    }

    private void rule1ClassesInside() {
        Set<String> face = new TreeSet<>();
        for (Method method : SkyloadBureau.class.getDeclaredMethods()) {
            if (Modifier.isPublic(method.getModifiers())) {
                face.add(method.getName());
            }
        }
        for (Class<?> type : classes) {
            boolean inside = type != SkyloadBureau.class;
            Check.isTrue("rule 1: " + type + " is static and private", !inside
                || Modifier.isStatic(type.getModifiers()) && Modifier.isPrivate(type.getModifiers()));
            for (Method method : type.getDeclaredMethods()) {
                Check.isTrue("rule 1: " + method + " bears no name of the face",
                    Modifier.isPublic(method.getModifiers()) || !face.contains(method.getName()));
            }
        }
    }

    private void rule2And6And10Words() {
        for (String word : NO_WORDS) {
            boolean isName = Character.isLetter(word.charAt(word.length() - 1));
            String pattern = isName ? "\\b" + word + "\\b" : Pattern.quote(word);
            Check.isTrue("rules 2, 6, 10: no " + word, !Pattern.compile(pattern).matcher(code).find());
        }
    }

    private void rule3Types() {
        for (Class<?> type : classes) {
            for (Field field : type.getDeclaredFields()) {
                Class<?> held = field.getType();
                Check.isTrue("rule 3: " + field, held == int.class || held == boolean.class || held == int[].class
                    || held == ArrayList.class || classes.contains(held));
            }
        }
    }

    private void rule4Library() throws IOException {
        for (Matcher found = Pattern.compile("import ([\\w.]+);").matcher(code); found.find();) {
            Check.isTrue("rule 4: import " + found.group(1), found.group(1).equals("java.util.ArrayList"));
        }
        for (Class<?> type : classes) {
            for (String call : callsOf(type)) {
                Check.isTrue("rule 4: " + call, call.startsWith("SkyloadBureau") || LIBRARY.contains(call));
            }
        }
    }

    private void rule4Signs() {
        for (int i = 0; i < source.length(); i++) {
            if (source.charAt(i) < 1 || source.charAt(i) > 127) {
                Check.fail("rule 4: the sign at " + i + " is " + (int) source.charAt(i));
            }
        }
    }

    private void rule5StaticFields() {
        for (Class<?> type : classes) {
            for (Field field : type.getDeclaredFields()) {
                Check.isTrue("rule 5: " + field, !Modifier.isStatic(field.getModifiers())
                    || Modifier.isFinal(field.getModifiers()) && field.getType() == int.class);
            }
        }
    }

    private void rule6Throws() {
        int all = count("\\bthrow\\b");
        int plain = count("throw new (IllegalStateException|IllegalArgumentException|IndexOutOfBoundsException)"
            + "\\((TEXT)?\\);");
        Check.isTrue("rule 6: there are throws", all > 0);
        Check.equal("rule 6: throws in the plain form", plain, all);
    }

    private void rule9Loops() {
        Check.equal("rule 9: loops without a test", count("while \\(true\\)|for \\([^;]*;\\s*;"), 0);
    }

    /** The program needs no recursion. A call is taken for one of every method that bears its name. */
    private void rule8And11Depth() {
        Map<String, Set<String>> calls = new TreeMap<>();
        for (Matcher method = METHOD.matcher(code); method.find();) {
            calls.computeIfAbsent(method.group(1), name -> new TreeSet<>()).addAll(callsIn(body(method)));
        }
        Check.isTrue("rule 11: methods are found", calls.size() > 40);
        for (String name : calls.keySet()) {
            Check.isTrue("rules 8, 11: calls from " + name + " go at most eight deep",
                depth(name, calls, MOST_DEPTH + 1) <= MOST_DEPTH);
        }
    }

    private static Set<String> callsIn(String body) {
        Set<String> calls = new TreeSet<>();
        // A list's own add and get are no calls of the program.
        String own = body.replaceAll("(flights|regulations)\\.(add|get|size)\\(", "(");
        for (Matcher call = Pattern.compile("(\\w+)\\(").matcher(own); call.find();) {
            calls.add(call.group(1));
        }
        return calls;
    }

    private static int depth(String name, Map<String, Set<String>> calls, int most) {
        int deepest = 0;
        if (most > 0) {
            for (String called : calls.get(name)) {
                if (calls.containsKey(called)) {
                    deepest = Math.max(deepest, depth(called, calls, most - 1));
                }
            }
        }
        return deepest + 1;
    }

    private void rule11Sizes() {
        Check.isTrue("rule 11: " + classes.size() + " classes", classes.size() <= MOST_CLASSES);
        for (Class<?> type : classes) {
            int fields = 0;
            for (Field field : type.getDeclaredFields()) {
                fields += Modifier.isStatic(field.getModifiers()) ? 0 : 1;
            }
            Check.isTrue("rule 11: " + fields + " fields in " + type, fields <= MOST_FIELDS);
            for (Method method : type.getDeclaredMethods()) {
                Check.isTrue("rule 11: parameters of " + method, method.getParameterCount() <= MOST_PARAMETERS);
            }
        }
        for (Matcher method = METHOD.matcher(code); method.find();) {
            long lines = body(method).lines().count();
            Check.isTrue("rule 11: " + lines + " lines in " + method.group(1), lines <= MOST_LINES);
        }
    }

    private int count(String pattern) {
        return (int) Pattern.compile(pattern).matcher(code).results().count();
    }

    /** From behind the method's opening brace to its closing one. */
    private String body(Matcher method) {
        int open = 1;
        int end = method.end();
        while (open > 0 && end < code.length()) {
            open += code.charAt(end) == '{' ? 1 : code.charAt(end) == '}' ? -1 : 0;
            end++;
        }
        return code.substring(method.end(), end);
    }

    /** Every method that a class file refers to, as its constant pool tells; also what javac puts in by itself. */
    private static Set<String> callsOf(Class<?> type) throws IOException {
        try (InputStream file = type.getResourceAsStream(type.getName() + ".class");
                DataInputStream in = new DataInputStream(file)) {
            in.skipBytes(8);
            int size = in.readUnsignedShort();
            Object[] pool = new Object[size];
            for (int i = 1; i < size; i++) {
                int tag = in.readUnsignedByte();
                pool[i] = constant(in, tag);
                // A long or a double takes two places.
                i += tag == 5 || tag == 6 ? 1 : 0;
            }
            return methods(pool);
        }
    }

    private static Object constant(DataInputStream in, int tag) throws IOException {
        switch (tag) {
            case 1:
                return in.readUTF();
            case 5:
            case 6:
                return in.readLong();
            case 7:
            case 8:
            case 16:
            case 19:
            case 20:
                return new int[] {tag, in.readUnsignedShort()};
            case 15:
                return new int[] {tag, in.readUnsignedByte(), in.readUnsignedShort()};
            case 3:
            case 4:
                return in.readInt();
            default:
                return new int[] {tag, in.readUnsignedShort(), in.readUnsignedShort()};
        }
    }

    private static Set<String> methods(Object[] pool) {
        Set<String> found = new TreeSet<>();
        for (Object constant : pool) {
            if (!(constant instanceof int[])) {
                continue;
            }
            int[] parts = (int[]) constant;
            if (parts[0] == 10 || parts[0] == 11) {
                found.add(text(pool, parts[1]) + "." + text(pool, parts[2]));
            } else if (parts[0] == 17 || parts[0] == 18) {
                found.add("a call that is made at run time");
            }
        }
        return found;
    }

    /** The name of a class, or that of a name and type. */
    private static String text(Object[] pool, int index) {
        return (String) pool[((int[]) pool[index])[1]];
    }
}
