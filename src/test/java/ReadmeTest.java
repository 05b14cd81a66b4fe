import java.io.IOException;
import java.lang.reflect.Field;
import java.lang.reflect.Method;
import java.lang.reflect.Modifier;
import java.util.Set;
import java.util.TreeSet;

/** README.md shows every call, with its answer, and tells every constant and exception of the face. */
public final class ReadmeTest {
    private static final Set<String> WITHOUT_ANSWER = Set.of("end", "swap");
    private static final Set<String> EXCEPTIONS = Set.of(
        "IndexOutOfBoundsException", "IllegalArgumentException", "IllegalStateException");
    private static final int MOST_CALLS = 512;

    private final Readme readme;

    private ReadmeTest(Readme readme) {
        this.readme = readme;
    }

    public static void main(String[] args) throws IOException, IllegalAccessException {
        ReadmeTest test = new ReadmeTest(Readme.read());
        test.linesTellAnswers();
        test.everyCallIsShown();
        test.everyConstantIsTold();
        test.everyExceptionIsTold();
        Check.isTrue("README.md tells how many calls are promised", test.readme.text.contains("512 calls"));
        Check.finish("ReadmeTest");
    }

    private void linesTellAnswers() {
        for (Readme.Line line : readme.lines) {
            Check.isTrue("README.md's line is a statement: " + line.text, line.isCall);
            if (line.name != null && line.thrown == null) {
                Check.isTrue("README.md's line tells an answer, just where there is one: " + line.text,
                    line.answer != null != WITHOUT_ANSWER.contains(line.name));
            }
        }
        Check.isTrue("README.md keeps to 512 calls", readme.lines.size() <= MOST_CALLS);
    }

    private void everyCallIsShown() {
        Set<String> shown = new TreeSet<>();
        for (Readme.Line line : readme.lines) {
            if (line.name != null) {
                shown.add(line.name);
            }
        }
        for (Method method : SkyloadBureau.class.getDeclaredMethods()) {
            if (Modifier.isPublic(method.getModifiers())) {
                Check.isTrue("README.md shows a call of " + method.getName(), shown.contains(method.getName()));
            }
        }
    }

    private void everyConstantIsTold() throws IllegalAccessException {
        for (Field field : SkyloadBureau.class.getFields()) {
            String told = "`" + field.getName() + " = " + field.getInt(null) + "`";
            Check.isTrue("README.md tells " + told, readme.text.contains(told));
        }
    }

    private void everyExceptionIsTold() {
        Set<String> thrown = new TreeSet<>();
        for (Readme.Line line : readme.lines) {
            if (line.thrown != null) {
                thrown.add(line.thrown);
            }
        }
        Check.isTrue("README.md shows calls that throw " + EXCEPTIONS, thrown.equals(new TreeSet<>(EXCEPTIONS)));
    }
}
