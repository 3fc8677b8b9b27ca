import java.io.IOException;
import java.nio.file.Files;
import java.nio.file.Path;
import java.util.List;
import java.util.regex.Matcher;
import java.util.regex.Pattern;

/** Some of the rules of ../shared/LANGUAGE.md that can be seen from the text of the class. */
public final class LanguageTest {
    private static final List<String> RULED_OUT = List.of("\\bpackage\\b", "->", "::", "\\bcatch\\b", "\\btry\\b",
            "\\bfinally\\b", "\\bassert\\b", "\\bsynchronized\\b", "\\w+Exact\\b", "\\bequals\\b", "\\bhashCode\\b",
            "\\btoString\\b", "\\bSystem\\b", "\\bRandom\\b", "\\bThread\\b", "\\bprotected\\b", "\\bstatic \\{",
            "\\bMap\\b", "\\bObject\\b", "\\bvar\\b");

    public static void main(String[] args) throws IOException {
        String text = Files.readString(Path.of("src/main/java/Gasvault.java"));
        String code = text.replaceAll("(?s)/\\*.*?\\*/", "").replaceAll("//[^\n]*", "");
        for (String rule : RULED_OUT) {
            Check.same(rule + " is ruled out", found(code, rule), 0);
        }
        Check.same("imports", found(code, "\\bimport\\b"), 1);
        Check.same("import of ArrayList", found(code, "import java\\.util\\.ArrayList;"), 1);
        Check.same("signs above 127", found(text, "[^\\x00-\\x7F]"), 0);
        Check.same("throws of classes of the document alone", found(code, "throw new (?!(IndexOutOfBounds"
                + "|IllegalArgument|IllegalState)Exception\\(\"[a-z ,]+\"\\);)"), 0);
        Check.same("static fields that are not final",
                found(code, "static (?!final|int \\w+\\(|boolean \\w+\\()[^(]*[;=]"), 0);
        Check.same("a method of over sixty lines", longestMethod(code) > 60 ? 1 : 0, 0);
        Check.end();
    }

    private static int found(String text, String rule) {
        int many = 0;
        for (Matcher m = Pattern.compile(rule).matcher(text); m.find();) {
            many++;
        }
        return many;
    }

    private static int longestMethod(String code) {
        int longest = 0;
        for (String part : code.split("\n\\s*\n")) {
            longest = Math.max(longest, part.split("\n").length);
        }
        return longest;
    }
}
