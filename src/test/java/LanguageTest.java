import java.io.IOException;
import java.nio.charset.StandardCharsets;
import java.nio.file.Files;
import java.nio.file.Path;
import java.util.regex.Matcher;
import java.util.regex.Pattern;

/** What a reading of the source can tell of LANGUAGE.md; it is run in the project's folder. */
public final class LanguageTest {
    private static final String[] NEVER = {
        "\\bimport\\b", "\\bpackage\\b", "->", "::", "\\btry\\b", "\\bcatch\\b", "\\bfinally\\b", "\\bsynchronized\\b",
        "\\bassert\\b", "\\bprotected\\b", "\\bSystem\\b", "\\bThread\\b", "\\bRandom\\b", "\\bObject\\b",
        "Exact\\(", "\\bstatic \\{", "\\bvar\\b", "\\bdouble\\b", "\\bfloat\\b", "@",
    };

    public static void main(String[] args) throws IOException {
        String source = Files.readString(Path.of("src/main/java/Floatparade.java"), StandardCharsets.ISO_8859_1);
        Check.is("signs beyond 126, or tabs", false, Pattern.compile("[^\\n -~]").matcher(source).find());
        String code = source.replaceAll("\"[^\"\\n]*\"", "\"\"").replaceAll("(?s)/\\*.*?\\*/", "").replaceAll("//.*", "");
        for (String never : NEVER) {
            Matcher found = Pattern.compile(never).matcher(code);
            Check.is("found " + never, false, found.find());
        }
        Check.is("texts that are joined", false, Pattern.compile("\"\"\\s*\\+|\\+\\s*\"\"").matcher(code).find());
        Check.is("some twelve classes", true, count(code, "\\bclass\\b") <= 12);
        Check.is("static fields are final", 0, count(code, "\\bstatic (?!final )[^(;]*;"));
        lengths(code);
        Check.finish("LanguageTest");
    }

    private static int count(String code, String what) {
        Matcher found = Pattern.compile(what).matcher(code);
        int count = 0;
        while (found.find()) {
            count++;
        }
        return count;
    }

    private static void lengths(String code) {
        Matcher head = Pattern.compile("(?m)^ {4}( {4})?[A-Za-z][^;={}]*\\([^;={}]*\\)[^;={}]*\\{\\n").matcher(code);
        int methods = 0;
        while (head.find()) {
            String indent = head.group(1) == null ? "    " : "        ";
            int end = code.indexOf("\n" + indent + "}", head.end());
            if (head.group().matches("(?s)\\s*(if|for|while|switch|else|do)\\b.*") || end < 0) {
                continue;
            }
            methods++;
            String parameters = head.group().replaceAll("(?s).*?\\(([^)]*)\\).*", "$1");
            Check.is("seven parameters: " + head.group(), true, parameters.split(",").length <= 7);
            Check.is("sixty lines: " + head.group(), true, code.substring(head.end(), end).split("\n").length <= 60);
        }
        Check.is("methods were found: " + methods, true, methods > 100);
    }
}
