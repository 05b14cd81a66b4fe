import java.io.IOException;

/** Prints a test, ReadmeRun, that makes the calls of README.md's java blocks and compares what they answer. */
public final class ReadmeProgram {
    private final StringBuilder program = new StringBuilder();

    private ReadmeProgram() {
    }

    public static void main(String[] args) throws IOException {
        ReadmeProgram made = new ReadmeProgram();
        made.write("public final class ReadmeRun {");
        made.write("    public static void main(String[] args) {");
        for (Readme.Line line : Readme.read().lines) {
            made.writeLine(line);
        }
        made.write("        Check.finish(\"ReadmeRun\");");
        made.write("    }");
        made.write("}");
        System.out.print(made.program);
    }

    private void write(String line) {
        program.append(line).append('\n');
    }

    private void writeLine(Readme.Line line) {
        String asked = line.call;
        if (line.variable != null) {
            write(line.type + " " + line.variable + " = " + line.call + ";");
            asked = line.variable;
        }
        if (line.thrown != null) {
            write("Check.throwing(" + quoted(line.text) + ", " + line.thrown + ".class, () -> " + line.call + ");");
        } else if (line.answer != null) {
            writeAnswer(quoted(line.text), asked, line.answer);
        } else if (line.variable == null) {
            write(asked + ";");
        }
    }

    private void writeAnswer(String text, String asked, String answer) {
        if (answer.equals("true") || answer.equals("false")) {
            write("Check.isTrue(" + text + ", " + asked + " == " + answer + ");");
        } else if (Character.isLetter(answer.charAt(0))) {
            write("Check.equal(" + text + ", " + asked + ", SkyloadBureau." + answer + ");");
        } else {
            write("Check.equal(" + text + ", " + asked + ", " + answer + ");");
        }
    }

    private static String quoted(String text) {
        return "\"" + text.replace("\\", "\\\\").replace("\"", "\\\"") + "\"";
    }
}
