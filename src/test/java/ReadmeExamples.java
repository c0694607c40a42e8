import java.io.IOException;
import java.nio.file.Files;
import java.nio.file.Path;
import java.util.ArrayList;
import java.util.List;
import java.util.regex.Matcher;
import java.util.regex.Pattern;

/**
 * Makes the program ReadmeShown out of the java examples in README.md: it holds each call against
 * the answer that is written beside it. A line of an example makes an object, or is one call with
 * its answer and, after a colon, words on it. Other lines are refused, so that no example can stand
 * in README.md and go untested.
 */
final class ReadmeExamples {
    private static final String OPENS = "```java";
    private static final String CLOSES = "```";
    private static final Pattern MAKES = Pattern.compile("WireRow \\w+ = new WireRow\\(\\);");
    private static final Pattern CALLS = Pattern.compile(
        "(?<kept>(?:int|long) (?<name>\\w+) = )?(?<call>\\w+\\.\\w+\\([^;]*\\));\\s*// (?<answer>"
        + "-?\\d+|WireRow\\.[A-Z]+(?: \\+ WireRow\\.[A-Z]+)?)(?:: .+)?");

    private final StringBuilder text = new StringBuilder();
    private final List<String> calls = new ArrayList<>();
    private int examples;
    private boolean isOpen;

    /** Takes README.md and the file that the program is written to. */
    public static void main(String[] args) throws IOException {
        ReadmeExamples read = new ReadmeExamples(Files.readAllLines(Path.of(args[0])));
        Files.writeString(Path.of(args[1]), read.program());
    }

    ReadmeExamples(List<String> lines) {
        for (int i = 0; i < lines.size(); i++) {
            take(lines.get(i).strip(), i + 1);
        }
        if (isOpen) {
            throw new IllegalArgumentException("README.md: the last example has no end");
        }
        if (calls.isEmpty()) {
            throw new IllegalArgumentException("README.md: there is no example");
        }
    }

    private void take(String line, int number) {
        if (!isOpen) {
            if (line.equals(OPENS)) {
                isOpen = true;
                text.append("    private static void example").append(examples++).append("(Due due) {\n");
            }
            return;
        }
        if (line.equals(CLOSES)) {
            isOpen = false;
            text.append("    }\n");
            return;
        }
        takeStatement(line, number);
    }

    private void takeStatement(String line, int number) {
        if (line.isEmpty()) {
            return;
        }
        if (MAKES.matcher(line).matches()) {
            text.append("        ").append(line).append('\n');
            return;
        }
        Matcher found = CALLS.matcher(line);
        if (!found.matches()) {
            throw new IllegalArgumentException("README.md:" + number + ": no call with its answer: " + line);
        }
        takeCall(found, number);
    }

    private void takeCall(Matcher found, int number) {
        String call = found.group("call");
        String got = call;
        if (found.group("kept") != null) {
            text.append("        ").append(found.group("kept")).append(call).append(";\n");
            got = found.group("name");
        }
        text.append("        due.is(\"README.md:").append(number).append(": ").append(call.replace("\"", "\\\""))
            .append("\", ").append(got).append(", ").append(found.group("answer")).append(");\n");
        calls.add(call);
    }

    List<String> calls() {
        return calls;
    }

    String program() {
        StringBuilder program = new StringBuilder("public final class ReadmeShown {\n");
        program.append("    public static void main(String[] args) {\n        Due due = new Due();\n");
        for (int i = 0; i < examples; i++) {
            program.append("        example").append(i).append("(due);\n");
        }
        return program.append("        due.end();\n    }\n").append(text).append("}\n").toString();
    }
}
