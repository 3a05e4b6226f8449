import java.io.IOException;
import java.lang.reflect.InvocationTargetException;
import java.lang.reflect.Method;
import java.lang.reflect.Modifier;
import java.nio.file.Files;
import java.nio.file.Path;
import java.util.List;
import java.util.regex.Matcher;
import java.util.regex.Pattern;
import java.util.stream.Stream;

/** What README.md shows is true: each call answers what stands behind it, and the files that it names are there. */
public final class ReadmeTest {
    private static final Path PAGE = Path.of("README.md");
    private static final String MAKING = "DelveKeep keep = new DelveKeep();";
    private static final Pattern CALL = Pattern.compile("keep\\.(\\w+)\\((.*)\\); +// (.+)");
    private static final Pattern ANSWER = Pattern.compile("('.'|-?[\\d.]+|true|false|throws \\w+)(: .+|; .+)?");

    private DelveKeep keep;
    private int calls = 0;

    private ReadmeTest() {
    }

    public static void main(String[] args) throws IOException, IllegalAccessException {
        List<String> lines = Files.readAllLines(PAGE);
        ReadmeTest test = new ReadmeTest();
        boolean isCode = false;
        for (String line : lines) {
            if (line.startsWith("```")) {
                isCode = line.equals("```java");
            } else if (isCode) {
                test.follow(line);
            }
        }
        Check.is("calls are found", test.calls >= 70, true);
        test.namesAll(String.join("\n", lines));
        namesTheCommand(lines);
        Check.end();
    }

    private void follow(String line) throws IllegalAccessException {
        if (line.equals(MAKING)) {
            keep = new DelveKeep();
            return;
        }
        Matcher call = CALL.matcher(line);
        boolean isCall = keep != null && call.matches();
        Check.is("a call with its answer: " + line, isCall, true);
        if (isCall) {
            Matcher answer = ANSWER.matcher(call.group(3));
            Check.is("an answer stands behind: " + line, answer.matches(), true);
            calls++;
            Check.is(line, answered(call.group(1), call.group(2)), answer.matches() ? answer.group(1) : "");
        }
    }

    private String answered(String name, String told) throws IllegalAccessException {
        String[] words = told.isEmpty() ? new String[0] : told.split(", ");
        Object[] values = new Object[words.length];
        for (int i = 0; i < words.length; i++) {
            values[i] = value(words[i]);
        }
        try {
            Object answer = method(name).invoke(keep, values);
            return answer instanceof Character ? "'" + answer + "'" : String.valueOf(answer);
        } catch (InvocationTargetException e) {
            return "throws " + e.getCause().getClass().getSimpleName();
        }
    }

    private static Object value(String word) {
        if (word.startsWith("'")) {
            return word.charAt(1);
        }
        if (word.equals("true") || word.equals("false")) {
            return word.equals("true");
        }
        return Integer.parseInt(word);
    }

    private static Method method(String name) {
        for (Method method : DelveKeep.class.getDeclaredMethods()) {
            if (method.getName().equals(name) && Modifier.isPublic(method.getModifiers())) {
                return method;
            }
        }
        throw new IllegalArgumentException(name);
    }

    /** Each call of the face and each class under src/test/java has its name in the page. */
    private void namesAll(String text) throws IOException {
        for (Method method : DelveKeep.class.getDeclaredMethods()) {
            if (Modifier.isPublic(method.getModifiers())) {
                Check.is(method.getName() + " is named", text.contains("`" + method.getName() + "`"), true);
            }
        }
        try (Stream<Path> files = Files.list(Path.of("src/test/java"))) {
            for (Path file : files.toList()) {
                String name = file.getFileName().toString().replace(".java", "");
                Check.is(name + " is named", text.contains("`" + name + "`"), true);
            }
        }
        Matcher test = Pattern.compile("`(\\w+Test)`").matcher(text);
        while (test.find()) {
            Check.is(test.group(1) + " is there", Files.exists(Path.of("src/test/java", test.group(1) + ".java")), true);
        }
    }

    /** The command that runs the tests stands alone in its line, and is the script that can be run. */
    private static void namesTheCommand(List<String> lines) throws IOException {
        Check.is("the command for the tests", lines.contains("    bash .ci/run"), true);
        Path script = Path.of(".ci", "run");
        Check.is("the script can be run", Files.isExecutable(script), true);
        String text = Files.readString(script);
        Check.is("it runs the project's tests", text.contains("src/test/java/*Test.java"), true);
        Check.is("it runs the shared tests", text.contains("../shared/tests"), true);
    }
}
