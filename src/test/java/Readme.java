import java.io.IOException;
import java.nio.charset.StandardCharsets;
import java.nio.file.Files;
import java.nio.file.Path;
import java.util.ArrayList;
import java.util.List;
import java.util.regex.Matcher;
import java.util.regex.Pattern;

/**
 * README.md and the lines of its java blocks, which belong together as one program. A line's comment tells the answer
 * of its call, a colon and words may follow: "// 40", "// NONE: none left", "// true", "// throws X".
 */
final class Readme {
    private static final Path FILE = Path.of("README.md");
    private static final Pattern BLOCK = Pattern.compile("```java\n(.*?)```", Pattern.DOTALL);

    /** A line of a java block: perhaps a variable, a call, perhaps the answer that is told. */
    static final class Line {
        private static final Pattern PARTS = Pattern.compile("(?:(\\w+) (\\w+) = )?(.+?);(?: +// (.*))?");
        private static final Pattern ANSWER = Pattern.compile("(-?[0-9]+|[A-Z]+|true|false)(?::.*)?");
        private static final Pattern THROWN = Pattern.compile("throws (\\w+)(?::.*)?");
        private static final Pattern NAME = Pattern.compile("bureau\\.(\\w+)\\(.*\\)");

        final String text;
        final boolean isCall;
        final String type;
        final String variable;
        final String call;
        final String name;
        final String answer;
        final String thrown;

        private Line(String text) {
            this.text = text;
            Matcher parts = PARTS.matcher(text);
            isCall = parts.matches();
            type = isCall ? parts.group(1) : null;
            variable = isCall ? parts.group(2) : null;
            call = isCall ? parts.group(3) : "";
            String comment = isCall && parts.group(4) != null ? parts.group(4) : "";
            name = first(NAME, call);
            answer = first(ANSWER, comment);
            thrown = first(THROWN, comment);
        }

        private static String first(Pattern pattern, String text) {
            Matcher found = pattern.matcher(text);
            return found.matches() ? found.group(1) : null;
        }
    }

    final String text;
    final List<Line> lines = new ArrayList<>();

    private Readme(String text) {
        this.text = text;
        for (Matcher block = BLOCK.matcher(text); block.find();) {
            block.group(1).lines().map(String::strip).filter(line -> !line.isEmpty())
                .forEach(line -> lines.add(new Line(line)));
        }
    }

    static Readme read() throws IOException {
        return new Readme(Files.readString(FILE, StandardCharsets.UTF_8));
    }
}
