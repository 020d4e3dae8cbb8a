import java.io.IOException;
import java.nio.file.Files;
import java.nio.file.Path;
import java.util.regex.Matcher;
import java.util.regex.Pattern;

/** What of LANGUAGE.md can be seen by reading the source: words that are not there, short methods, few classes. */
final class LanguageTest {
    private static final String[] NOT_THERE = {"throw", "throws", "try", "catch", "synchronized", "assert", "import", "package",
        "double", "float", "protected", "native", "volatile", "transient", "hashCode", "toString", "default ->", "->", "::",
        "@", "Object", "Thread", "random", "Exact", "values\\(\\)", "getClass", "var"};
    private static final String LIBRARY = "\\b(System|Math|Integer|Long|String|StringBuilder|Arrays|List|ArrayList)\\.(\\w+)";
    private static final String ALLOWED = "System.arraycopy|Math.(max|min|abs)|Integer.bitCount";

    public static void main(String[] args) throws IOException {
        Check check = new Check("LanguageTest");
        String source = Files.readString(Path.of(System.getProperty("source", "src/main/java/GravyBoats.java")));
        String code = source.replaceAll("(?s)/\\*.*?\\*/", "").replaceAll("//[^\n]*", "")
                .replaceAll("'(\\\\.|[^'\\\\])'", "0").replaceAll("\"[^\"\n]*\"", "TEXT");
        for (String word : NOT_THERE) {
            String pattern = word.matches("\\w+") ? "\\b" + word + "\\b" : word;
            check.due("no " + word, Pattern.compile(pattern).matcher(code).find(), false);
        }
        check.due("texts are not joined by +", Pattern.compile("TEXT\\s*\\+|\\+\\s*TEXT").matcher(code).find(), false);
        Matcher library = Pattern.compile(LIBRARY).matcher(code);
        while (library.find()) {
            check.due("library: " + library.group(), library.group().matches(ALLOWED), true);
        }
        for (int i = 0; i < source.length(); i++) {
            check.due("a sign at " + i, source.charAt(i) < 128, true);
        }
        Matcher classes = Pattern.compile("\\bclass\\b").matcher(code);
        int count = 0;
        while (classes.find()) {
            count++;
        }
        check.due("twelve classes at most", count <= 12, true);
        Matcher methods = Pattern.compile("(?m)^( +)(?:\\w+(?:\\[\\])* )+\\w+\\([^)]*\\)(?: \\{)\n(?s)(.*?)\n\\1\\}").matcher(code);
        while (methods.find()) {
            check.due("short: " + methods.group().trim().split("\n")[0], methods.group(2).split("\n").length <= 60, true);
        }
        check.close();
    }
}
