import java.io.IOException;
import java.lang.reflect.Method;
import java.lang.reflect.Modifier;
import java.nio.file.Files;
import java.nio.file.Path;
import java.util.List;

/**
 * README.md shows each call of the face, and ReadmeExamples lets none of its examples go untested.
 * Whether they answer as README.md says, ReadmeShown tells, which .ci/run makes and runs.
 */
public final class ReadmeTest {
    private static final String MAKES = "WireRow row = new WireRow();";

    public static void main(String[] args) throws IOException {
        Due due = new Due();
        showsEachCall(due);
        holdsCallsAgainstAnswers(due);
        refusesWhatItCannotTest(due);
        due.end();
    }

    private static void showsEachCall(Due due) throws IOException {
        List<String> calls = new ReadmeExamples(Files.readAllLines(Path.of("README.md"))).calls();
        for (Method method : WireRow.class.getDeclaredMethods()) {
            if (Modifier.isPublic(method.getModifiers())) {
                String begins = "row." + method.getName() + "(";
                boolean isShown = calls.stream().anyMatch(call -> call.startsWith(begins));
                due.isTrue("README.md shows " + begins + "..)", isShown);
            }
        }
    }

    private static void holdsCallsAgainstAnswers(Due due) {
        has(due, "row.told(1);  // 3", "due.is(\"README.md:3: row.told(1)\", row.told(1), 3);");
        has(due, "row.told(1); // 3: how many: pegs", "row.told(1), 3);");
        has(due, "row.about(0, 3);  // -150: its side", "row.about(0, 3), -150);");
        has(due, "row.worst();  // WireRow.NONE", "row.worst(), WireRow.NONE);");
        has(due, "row.off(9, 0);  // WireRow.LOST + WireRow.NO", "row.off(9, 0), WireRow.LOST + WireRow.NO);");
        has(due, "int price = row.choose(200);  // 9", "int price = row.choose(200);");
        has(due, "int price = row.choose(200);  // 9", "due.is(\"README.md:3: row.choose(200)\", price, 9);");
        has(due, "", MAKES);
        String two = new ReadmeExamples(List.of("```java", MAKES, "row.clear(); // 0", "```",
            "```sh", "row.told(9)", "```", "```java", MAKES, "row.price(); // 0", "```")).program();
        due.isTrue("the first example is run", two.contains("example0(due);") && two.contains("row.clear(), 0);"));
        due.isTrue("the second example is run", two.contains("example1(due);") && two.contains("row.price(), 0);"));
        due.isTrue("another language is none", !two.contains("row.told(9)"));
    }

    private static void has(Due due, String line, String statement) {
        String program = new ReadmeExamples(List.of("```java", MAKES, line, "row.clear();  // 0", "```")).program();
        due.isTrue("of '" + line + "' comes '" + statement + "'", program.contains(statement));
    }

    private static void refusesWhatItCannotTest(Due due) {
        refuses(due, "a call without an answer", "```java", MAKES, "row.clear();", "```");
        refuses(due, "a kept answer that is not told", "```java", MAKES, "int n = row.clear();", "```");
        refuses(due, "words for an answer", "```java", MAKES, "row.clear();  // none", "```");
        refuses(due, "an answer that runs into words", "```java", MAKES, "row.clear();  // 0 pegs", "```");
        refuses(due, "a call for an answer", "```java", MAKES, "row.clear();  // row.clear()", "```");
        refuses(due, "two calls in a line", "```java", MAKES, "row.clear(); row.clear();  // 0", "```");
        refuses(due, "another statement", "```java", MAKES, "row.clear();  // 0", "if (true) {", "```");
        refuses(due, "an example without an end", "```java", MAKES, "row.clear();  // 0");
        refuses(due, "an example without a call", "```java", MAKES, "```");
        refuses(due, "no example", "# WireRow");
    }

    private static void refuses(Due due, String what, String... lines) {
        try {
            new ReadmeExamples(List.of(lines));
        } catch (IllegalArgumentException refused) {
            due.isTrue(what, true);
            return;
        }
        due.fail(what + " is let through");
    }
}
