import java.io.IOException;
import java.nio.file.Files;
import java.nio.file.Path;
import java.util.List;
import java.util.regex.Matcher;
import java.util.regex.Pattern;

/** The rules of ../shared/LANGUAGE.md that can be seen from the text of the class; the number is the rule's. */
public final class LanguageTest {
    private static final String[][] NONE_OF = {
        {"2 and 6, no lambda, no switch with arrows", "->"},
        {"2, no method reference", "::"},
        {"3, no texts joined by +", "\"\\s*\\+|\\+\\s*\""},
        {"3, no Math on doubles, no other numbers", "Math\\.(?!max\\(|min\\(|abs\\()|\\bLong\\b|\\bDouble\\b|NaN"},
        {"6, no catch, finally or assert", "\\b(catch|finally|assert|synchronized)\\b"},
        {"6, only these exceptions", "throw (?!new (IllegalState|IllegalArgument|IndexOutOfBounds|Arithmetic"
            + "|UnsupportedOperation|NoSuchElement|Runtime)(Exception)\\(\\))"},
        {"6, no equals, hashCode or toString", "\\b(equals|hashCode|toString)\\b"},
        {"5, no static state", "static (?!final)[\\w\\[\\]<>]+ \\w+( =|;)|static \\{"},
        {"13, no clock, chance, thread or output", "System\\.(?!arraycopy)|Random|Thread|java\\.(io|nio|net|time)"},
    };

    private LanguageTest() {
    }

    public static void main(String[] args) throws IOException {
        List<String> lines = Files.readAllLines(Path.of("src/main/java/DelveKeep.java"));
        String code = withoutComments(String.join("\n", lines));
        for (String[] rule : NONE_OF) {
            Matcher found = Pattern.compile(rule[1]).matcher(code);
            Check.is("rule " + rule[0], found.find() ? found.group() : "", "");
        }
        Check.is("rule 4, signs from 1 to 127", code.chars().allMatch(sign -> sign >= 1 && sign <= 127), true);
        Check.is("rule 1, no package", code.contains("package "), false);
        Check.is("rule 4, imports", count(code, "import (?!java\\.util\\.(Arrays|NoSuchElementException|List|ArrayList);)"), 0);
        Check.is("rule 11, some twelve classes", count(code, "\\b(class|interface|enum|record) [A-Z]") <= 12, true);
        methodsAreShort(code.split("\n"));
        Check.end();
    }

    private static String withoutComments(String text) {
        return text.replaceAll("(?s)/\\*.*?\\*/", "").replaceAll("(?m)//.*$", "");
    }

    private static int count(String code, String pattern) {
        Matcher found = Pattern.compile(pattern).matcher(code);
        int number = 0;
        while (found.find()) {
            number++;
        }
        return number;
    }

    /** A method begins with a line that ends in ") {" and a name ahead of "(", and ends where its indent comes again. */
    private static void methodsAreShort(String[] lines) {
        Pattern head = Pattern.compile("^( {4}| {8})(?! )[\\w\\[\\]. ]*?(\\w+)\\(([^()]*)\\).*\\{$");
        int methods = 0;
        for (int i = 0; i < lines.length; i++) {
            Matcher found = head.matcher(lines[i]);
            boolean isHead = found.matches() && !found.group(2).matches("if|for|while|switch|catch");
            if (isHead) {
                methods++;
                int parameters = found.group(3).isBlank() ? 0 : found.group(3).split(",").length;
                Check.is("rule 11, parameters of " + found.group(2), parameters <= 7, true);
                int end = i;
                while (!lines[end].equals(found.group(1) + "}")) {
                    end++;
                }
                Check.is("rule 11, length of " + found.group(2), end - i <= 60, true);
            }
        }
        Check.is("methods are found", methods > 60, true);
    }
}
