import java.io.IOException;
import java.nio.charset.StandardCharsets;
import java.nio.file.Files;
import java.nio.file.Path;
import java.util.regex.Matcher;
import java.util.regex.Pattern;

/** What of LANGUAGE.md can be seen in the signs of src/main/java/SelfScale.java (its path is the argument). */
public final class LanguageTest {
    private static final Check CHECK = new Check("LanguageTest");
    private static final String[] FORBIDDEN = {
        "\\b(throw|throws|try|catch|finally|synchronized|assert|volatile|transient|native|strictfp)\\b",
        "\\b(import|package|lambda|record|sealed|permits|yield|var|instanceof|extends|implements|interface)\\b",
        "->", "::", "\\bSystem\\b(?!\\.arraycopy)", "\\bObject\\b", "\\bnull\\b",
        "\\.(equals|hashCode|toString|getClass)\\s*\\(", "Exact\\s*\\(", "@\\w+", "\\bstatic\\s*\\{",
        "\\b(double|float)\\b", "\\[\\]\\s*\\[\\]", "new\\s+\\w+\\s*\\([^)]*\\)\\s*\\{"};

    public static void main(String[] args) throws IOException {
        String path = args.length > 0 ? args[0] : "src/main/java/SelfScale.java";
        String source = Files.readString(Path.of(path), StandardCharsets.ISO_8859_1);
        for (char sign : source.toCharArray()) {
            if (sign > 126 || sign < 32 && sign != '\n') {
                CHECK.due("sign " + (int) sign, 1, 0);
            }
        }
        String code = withoutTexts(source);
        for (String pattern : FORBIDDEN) {
            Matcher matcher = Pattern.compile(pattern).matcher(code);
            CHECK.due("rule against " + pattern, matcher.find() ? 1 : 0, 0);
        }
        rowsAreLookedAt(code);
        methodsAreShort(source);
        CHECK.end();
    }

    private static String withoutTexts(String source) {
        return source.replaceAll("(?s)/\\*.*?\\*/", "").replaceAll("//[^\n]*", "")
                .replaceAll("\"[^\"\n]*\"", "\"\"").replaceAll("'[^'\n]*'", "' '");
    }

    /** An array is used in the class Row alone, which looks at each place. */
    private static void rowsAreLookedAt(String code) {
        String row = code.substring(code.indexOf("class Row"), code.indexOf("class Text"));
        String others = code.replace(row, "");
        CHECK.due("arrays outside Row", others.contains("[") ? 1 : 0, 0);
    }

    private static void methodsAreShort(String source) {
        Matcher matcher = Pattern.compile("(?m)^( {4}| {8})(?! )[^\n=;]*\\) \\{\n(.*?\n)\\1\\}\n", Pattern.DOTALL).matcher(source);
        int methods = 0;
        while (matcher.find()) {
            methods++;
            long lines = matcher.group(2).chars().filter(sign -> sign == '\n').count();
            CHECK.due("a method of " + lines + " lines", lines > 60 ? 1 : 0, 0);
        }
        CHECK.due("methods were seen", methods > 60 ? 1 : 0, 1);
    }
}
