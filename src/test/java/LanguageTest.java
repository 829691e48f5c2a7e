import java.io.IOException;
import java.nio.file.Files;
import java.nio.file.Path;
import java.util.List;
import java.util.TreeSet;
import java.util.regex.Matcher;
import java.util.regex.Pattern;

/** Some rules of ../shared/LANGUAGE.md that the text of the class shows. The argument is the path of its file. */
public final class LanguageTest {
    private static final String[] NEVER = {
        "\\bcatch\\b", "\\btry\\b", "\\bfinally\\b", "\\bassert\\b", "\\bsynchronized\\b", "->", "::",
        "\\bequals\\b", "\\bhashCode\\b", "\\btoString\\b", "Exact\\b", "\\binstanceof\\b", "\\bvar\\b",
        "\\bprotected\\b", "\\bpackage\\b", "\\bstatic\\s*\\{", "\\bSystem\\.", "\\bThread\\b", "\\bRandom\\b",
    };

    /** What the class calls of the library (rule 4), on a class's name. */
    private static final List<String> LIBRARY = List.of("Math.max", "Math.min", "Integer.bitCount");

    /** What it throws (rule 6). */
    private static final List<String> THROWN = List.of("IllegalStateException", "IllegalArgumentException",
            "IndexOutOfBoundsException", "ArithmeticException", "UnsupportedOperationException",
            "NoSuchElementException");

    private static final int LONGEST_METHOD = 60;

    public static void main(String[] args) throws IOException {
        String text = Files.readString(Path.of(args[0]));
        String code = text.replaceAll("/\\*(?s:.*?)\\*/", "").replaceAll("//.*", "");
        for (String each : NEVER) {
            Matcher found = Pattern.compile(each).matcher(code);
            Check.same("rule 2, 4, 6 or 13: " + each, found.find() ? found.group() : "", "");
        }
        Check.same("rule 4: the only import", count(code, "\\bimport\\b[^;]*;"), 1);
        Check.isTrue("rule 4: of the exception", code.contains("import java.util.NoSuchElementException;"));
        Check.same("rule 5: static fields are final", count(code, "\\bstatic (?!final)\\w+ \\w+( =|;)"), 0);
        Check.isTrue("rule 11: some twelve classes", count(code, "\\bclass \\w+") <= 12);
        Check.isTrue("rule 9: no loop without a bound", !code.contains("while (true)") && !code.contains("for (;;)"));
        Check.same("rule 4: signs 1 to 127", count(text, "[^\\x01-\\x7f]"), 0);
        for (String each : found(code, "\\b[A-Z][a-z]\\w*\\.[a-z]\\w*")) {
            Check.isTrue("rule 4: " + each, LIBRARY.contains(each));
        }
        for (String each : found(code, "(?<=throw new )\\w+\\(\"[^\"]*\"\\);")) {
            Check.isTrue("rule 6: " + each, THROWN.contains(each.substring(0, each.indexOf('('))));
        }
        Check.same("rule 6: each with a written text", count(code, "\\bthrow\\b"),
                count(code, "\\bthrow new \\w+\\(\"[^\"]*\"\\);"));
        String withoutTexts = code.replaceAll("\"[^\"]*\"", "text");
        Check.same("rule 10: no text is joined by +", count(withoutTexts, "\\btext\\s*\\+|\\+\\s*text\\b"), 0);
        methodsAreShort(code);
        Check.end();
    }

    private static void methodsAreShort(String code) {
        String name = "\\b(?!(?:if|for|while|switch)\\b)\\w+";
        Matcher head = Pattern.compile(name + "\\([^()]*\\)(?:\\s+throws[\\w,\\s]+)?\\s*\\{").matcher(code);
        int methods = 0;
        while (head.find()) {
            methods++;
            String body = code.substring(head.start(), closing(code, head.end()));
            Check.isTrue("rule 11: a short method: " + head.group(), count(body, "\n") < LONGEST_METHOD);
        }
        Check.isTrue("rule 11: all methods of the face were found, and more", methods > 39);
    }

    /** The place behind the brace that closes what has been opened just before the start. */
    private static int closing(String code, int start) {
        int open = 1;
        int place = start;
        while (open > 0 && place < code.length()) {
            char sign = code.charAt(place);
            open += sign == '{' ? 1 : sign == '}' ? -1 : 0;
            place++;
        }
        return place;
    }

    private static TreeSet<String> found(String text, String pattern) {
        TreeSet<String> all = new TreeSet<>();
        Matcher found = Pattern.compile(pattern).matcher(text);
        while (found.find()) {
            all.add(found.group());
        }
        return all;
    }

    private static int count(String text, String pattern) {
        Matcher found = Pattern.compile(pattern).matcher(text);
        int sum = 0;
        while (found.find()) {
            sum++;
        }
        return sum;
    }
}
