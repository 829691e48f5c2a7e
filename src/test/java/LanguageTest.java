import java.io.IOException;
import java.nio.file.Files;
import java.nio.file.Path;
import java.util.regex.Matcher;
import java.util.regex.Pattern;

/** Some rules of ../shared/LANGUAGE.md that the text of the class shows. The argument is the path of its file. */
public final class LanguageTest {
    private static final String[] NEVER = {
        "\\bcatch\\b", "\\btry\\b", "\\bfinally\\b", "\\bassert\\b", "\\bsynchronized\\b", "->", "::",
        "\\bequals\\b", "\\bhashCode\\b", "\\btoString\\b", "Exact\\b", "\\binstanceof\\b", "\\bvar\\b",
        "\\bprotected\\b", "\\bpackage\\b", "\\bstatic\\s*\\{", "\\bSystem\\.", "\\bThread\\b", "\\bRandom\\b",
    };

    public static void main(String[] args) throws IOException {
        String text = Files.readString(Path.of(args[0]));
        String code = text.replaceAll("/\\*(?s:.*?)\\*/", "").replaceAll("//.*", "");
        for (String each : NEVER) {
            Matcher found = Pattern.compile(each).matcher(code);
            Check.same("rule 2, 4, 6 or 13: " + each, found.find() ? found.group() : "", "");
        }
        Check.same("rule 4: the only import", count(code, "\\bimport\\b[^;]*;"), 1);
        Check.isTrue("rule 4: of the exception", code.contains("import java.util.NoSuchElementException;"));
        Check.same("rule 5: static fields are final", count(code, "\\bstatic (?!final)\\w+ \\w+( =|;)"), 0);
        Check.isTrue("rule 11: some twelve classes", count(code, "\\bclass \\w+") <= 12);
        Check.isTrue("rule 9: no loop without a bound", !code.contains("while (true)") && !code.contains("for (;;)"));
        Check.same("rule 4: signs 1 to 127", count(text, "[^\\x01-\\x7f]"), 0);
        Check.end();
    }

    private static int count(String text, String pattern) {
        Matcher found = Pattern.compile(pattern).matcher(text);
        int sum = 0;
        while (found.find()) {
            sum++;
        }
        return sum;
    }
}
