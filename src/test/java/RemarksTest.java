import java.io.IOException;
import java.nio.charset.StandardCharsets;
import java.nio.file.Files;
import java.nio.file.Path;
import java.util.Map;
import java.util.TreeMap;
import java.util.regex.Matcher;
import java.util.regex.Pattern;

/**
 * Whether the remarks of the tests name what they test: each remark quotes the document, under the name of the part
 * that the sentence is of (Start, Terms, Promise 1 ..), and all sentences of the terms and of the promises are quoted.
 * It is run in the project's folder; without the document there is nothing to compare, and it passes.
 */
public final class RemarksTest {
    private static final Path DOCUMENT = Path.of("../shared/DOC.md");
    private static final String[] TESTS = {"AllCalls", "Societies", "Streets", "Order", "March", "Notes"};
    private static final Pattern REMARK = Pattern.compile("(?s)/\\*\\*(.*?)\\*/");
    private static final Pattern PART_OR_QUOTE = Pattern.compile("(Start|Terms|Promise \\d+)(?=: \")|\"([^\"]*)\"");

    private final Map<String, String> parts = new TreeMap<>();
    private final Map<String, boolean[]> quoted = new TreeMap<>();

    public static void main(String[] args) throws IOException {
        Check.is("it can be run without the document", true, true);
        if (Files.isReadable(DOCUMENT)) {
            RemarksTest remarks = new RemarksTest();
            remarks.readDocument();
            for (String test : TESTS) {
                remarks.readTest("EdgesOf" + test + "Test");
            }
            remarks.tellWhatIsNotQuoted();
        }
        Check.finish("RemarksTest");
    }

    private void readDocument() throws IOException {
        String part = "";
        for (String line : Files.readAllLines(DOCUMENT, StandardCharsets.UTF_8)) {
            if (line.startsWith("## ")) {
                part = partNamed(line.substring(3));
            } else if (!part.isEmpty() && isSentence(line)) {
                parts.merge(part, plain(line), (before, more) -> before + " " + more);
            }
        }
        parts.forEach((name, text) -> quoted.put(name, new boolean[text.length()]));
        Check.is("parts of the document: " + parts.keySet(), 36, parts.size());
    }

    private static String partNamed(String title) {
        if (title.startsWith("Promise ")) {
            return title.replaceAll(":.*", "");
        }
        return title.equals("Terms") ? title : title.equals("What it is") ? "Start" : "";
    }

    /** No title, no signature of a call, and nothing of how the calls are grouped. */
    private static boolean isSentence(String line) {
        boolean isTitle = line.startsWith("#") || line.matches("[A-Z][a-z]+(, [a-z]+)*");
        boolean isSignature = line.startsWith("`") && line.contains("(");
        return !line.isBlank() && !isTitle && !line.startsWith("Ahead of the calls")
                && (!isSignature || line.contains("`: "));
    }

    private static String plain(String line) {
        String text = line.startsWith("`") ? line.replaceFirst("^`[^`]*`: ", "") : line;
        return text.replaceFirst("^- ", "").replace("`", "").strip();
    }

    private void readTest(String test) throws IOException {
        String source = Files.readString(Path.of("src/test/java/" + test + ".java"), StandardCharsets.UTF_8);
        Matcher remark = REMARK.matcher(source);
        while (remark.find()) {
            readRemark(test, remark.group(1).replaceAll("\\s*\\n\\s*\\* ?", " "));
        }
    }

    private void readRemark(String test, String remark) {
        Matcher found = PART_OR_QUOTE.matcher(remark);
        String part = "";
        while (found.find()) {
            if (found.group(1) != null) {
                part = found.group(1);
            } else {
                String text = parts.getOrDefault(part, "");
                Check.is(test + ": stands in the document, " + part + ": " + found.group(2), true,
                        mark(text, quoted.get(part), found.group(2)));
            }
        }
    }

    private static boolean mark(String text, boolean[] marks, String quote) {
        int from = text.indexOf(quote);
        boolean is = from >= 0;
        while (from >= 0) {
            for (int i = 0; i < quote.length(); i++) {
                marks[from + i] = true;
            }
            from = text.indexOf(quote, from + 1);
        }
        return is;
    }

    private void tellWhatIsNotQuoted() {
        for (Map.Entry<String, String> part : parts.entrySet()) {
            if (part.getKey().equals("Start")) {
                continue;
            }
            StringBuilder left = new StringBuilder();
            for (int i = 0; i < part.getValue().length(); i++) {
                left.append(quoted.get(part.getKey())[i] ? '|' : part.getValue().charAt(i));
            }
            String bare = left.toString().replaceAll("[|\\s.,;:]+", " ").strip();
            Check.same(part.getKey() + ", what no test quotes:", "", bare);
        }
    }
}
