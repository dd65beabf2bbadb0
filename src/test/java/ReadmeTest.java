import java.io.File;
import java.io.IOException;
import java.lang.reflect.Method;
import java.lang.reflect.Modifier;
import java.nio.file.Files;
import java.nio.file.Path;
import java.util.ArrayList;
import java.util.List;
import java.util.regex.Matcher;
import java.util.regex.Pattern;

/** README.md is true: its example answers as it says, and it names every call, every class inside and every test. */
final class ReadmeTest {
    private static final String TESTS = "src/test/java";

    private final Checks checks = new Checks();
    private final String readme;

    private ReadmeTest(String readme) {
        this.readme = readme;
    }

    public static void main(String[] args) throws IOException {
        ReadmeTest test = new ReadmeTest(Files.readString(Path.of("README.md")));
        test.exampleIsTheOneBelow();
        test.exampleAnswers();
        test.callsAreNamed();
        test.classesAreNamed();
        test.testsAreNamed();
        test.checks.end();
    }

    private void exampleIsTheOneBelow() throws IOException {
        List<String> lines = new ArrayList<>();
        boolean within = false;
        for (String line : Files.readAllLines(Path.of(TESTS, "ReadmeTest.java"))) {
            if (line.endsWith("// The example ends.")) {
                within = false;
            }
            if (within) {
                lines.add(line.trim());
            }
            if (line.endsWith("// The example begins.")) {
                within = true;
            }
        }
        String code = textBetween("```java\n", "```");
        checks.due("the example without its comments", code.replaceAll(" *//[^\n]*", "").trim(), String.join("\n", lines));
    }

    private String textBetween(String begin, String end) {
        int from = readme.indexOf(begin) + begin.length();
        return readme.substring(from, readme.indexOf(end, from));
    }

    private void exampleAnswers() {
        // The example begins.
        LinkQueues x = new LinkQueues();
        x.kind(0, 1, 1500);
        x.mean(0, 5.0, 15.0, 0.1, 0.25);
        x.kind(1, 2, 300);
        x.delay(1, 5.0, 100.0);
        x.link(100.0, 50000);
        x.coin(0.25);
        int first = x.come(0, 1200, true);
        int second = x.come(1, 500, false);
        int gone = x.tick(20);
        int last = x.sent(0, 0);
        int wait = x.sent(0, 3);
        // The example ends.
        dueOfExample("first", first);
        dueOfExample("second", second);
        dueOfExample("gone", gone);
        dueOfExample("last", last);
        dueOfExample("wait", wait);
    }

    /** The comment of a line that keeps an answer begins with that answer. */
    private void dueOfExample(String name, int got) {
        Matcher told = Pattern.compile("int " + name + " = [^/\n]*// (-?\\d+)").matcher(readme);
        checks.due("the answer " + name + " of the example", "" + got, told.find() ? told.group(1) : "not told");
    }

    private void callsAreNamed() {
        for (Method method : LinkQueues.class.getDeclaredMethods()) {
            if (Modifier.isPublic(method.getModifiers())) {
                String arguments = "\\w+, ".repeat(method.getParameterCount()).replaceAll(", $", "");
                String row = "(?s).*\n\\| `" + method.getName() + "\\(" + arguments + "\\)` \\|.*";
                checks.isTrue("README.md has a row for " + method, readme.matches(row));
            }
        }
    }

    private void classesAreNamed() {
        for (Class<?> inside : LinkQueues.class.getDeclaredClasses()) {
            isNamed(inside.getSimpleName());
        }
    }

    private void testsAreNamed() {
        String[] files = new File(TESTS).list();
        checks.isTrue("there are tests", files != null);
        for (String file : files == null ? new String[0] : files) {
            if (file.endsWith("Test.java")) {
                isNamed(file.replace(".java", ""));
            }
        }
        isNamed("../shared/tests");
        checks.isTrue("README.md says how to run the tests", readme.contains("```sh\n.ci/run\n```"));
    }

    private void isNamed(String name) {
        checks.isTrue("README.md names " + name, readme.contains("`" + name + "`"));
    }
}
