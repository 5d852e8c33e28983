import java.io.IOException;
import java.nio.file.Files;
import java.nio.file.Path;
import java.util.regex.Matcher;
import java.util.regex.Pattern;

/** Those rules of ../shared/LANGUAGE.md that the source's own signs show. */
public final class LanguageTest {
    private static final String[] RULED_OUT = {
        "\\bimport\\b", "\\bpackage\\b", "\\bthrow\\b", "\\bthrows\\b", "\\btry\\b", "\\bcatch\\b", "\\bfinally\\b",
        "\\bsynchronized\\b", "\\bassert\\b", "\\bvolatile\\b", "\\btransient\\b", "\\bnative\\b", "\\bprotected\\b",
        "\\bdouble\\b", "\\bfloat\\b", "\\bvar\\b", "\\brecord\\b", "->", "::", "\\.\\.\\.", "@", "\\bstatic\\s*\\{",
        "\\b(equals|hashCode|toString)\\b", "MAX_VALUE", "MIN_VALUE", "\\bwhile\\s*\\(true\\)", "for\\s*\\(;;\\)",
        "\\bSystem\\.(?!arraycopy\\b)", "\\bMath\\.(?!(max|min|abs|floorDiv|floorMod)\\b)",
        "\\b(Integer|Long)\\.(?!(compare|bitCount|max|min)\\b)", "Exact\\b",
        "\\bnew\\s+\\w+\\([^()]*\\)\\s*\\{"};
    private static final Pattern METHOD = Pattern.compile(
            "\\n    (?:    )?(?:public |private |static |final )*[\\w\\[\\]]+ (\\w+)\\(([^)]*)\\) \\{\\n");

    private LanguageTest() {
    }

    public static void main(String[] args) throws IOException {
        String source = Files.readString(Path.of("src/main/java/ThrowHook.java"));
        for (int i = 0; i < source.length(); i++) {
            if (source.charAt(i) > 126 || source.charAt(i) < 32 && source.charAt(i) != '\n') {
                Check.isTrue("sign " + i + " is a plain one", false);
            }
        }
        String code = withoutTexts(source);
        for (String one : RULED_OUT) {
            Matcher found = Pattern.compile(one).matcher(code);
            Check.isTrue("nothing like " + one, !found.find());
        }
        methods(code);
        whiles(code);
        Check.end();
    }

    /** The source with nothing in its comments and texts. */
    private static String withoutTexts(String source) {
        return source.replaceAll("(?s)/\\*.*?\\*/", "").replaceAll("//[^\\n]*", "")
                .replaceAll("\"[^\"\\n]*\"", "\"\"").replaceAll("'[^'\\n]'", "' '");
    }

    private static void methods(String code) {
        Matcher found = METHOD.matcher(code);
        int methods = 0;
        while (found.find()) {
            String name = found.group(1);
            String list = found.group(2);
            int parameters = list.isBlank() ? 0 : list.split(",").length;
            Check.isTrue(name + " takes at most seven parameters", parameters <= 7);
            Check.isTrue(name + " has at most sixty lines", lines(code, found.end()) <= 60);
            methods++;
        }
        Check.isTrue("the methods were found", methods > 80);
    }

    private static int lines(String code, int start) {
        int depth = 1;
        int lines = 1;
        for (int i = start; i < code.length() && depth > 0; i++) {
            char sign = code.charAt(i);
            depth += sign == '{' ? 1 : sign == '}' ? -1 : 0;
            lines += sign == '\n' ? 1 : 0;
        }
        return lines;
    }

    /** A while's end is seen from its own line: a counter against a bound. */
    private static void whiles(String code) {
        Matcher found = Pattern.compile("\\bwhile \\((.*)\\) \\{").matcher(code);
        while (found.find()) {
            Check.isTrue("a bound in: " + found.group(), found.group(1).matches(".*[<>].*"));
        }
    }
}
