import java.io.IOException;
import java.nio.file.Files;
import java.nio.file.Path;
import java.util.LinkedHashMap;
import java.util.Map;
import java.util.TreeMap;
import java.util.TreeSet;
import java.util.regex.Matcher;
import java.util.regex.Pattern;

/** What of LANGUAGE.md can be seen by reading the source; FaceTest looks at the face, at fields and at parameters. */
final class LanguageTest {
    private static final String[] NOT_THERE = {"throw", "throws", "try", "catch", "synchronized", "assert", "import", "package",
        "double", "float", "protected", "native", "volatile", "transient", "hashCode", "toString", "default ->", "->", "::",
        "@", "Object", "Thread", "random", "Exact", "values\\(\\)", "getClass", "var", "while \\(true\\)", "for \\([^;]*;;"};
    private static final String LIBRARY = "\\b(System|Math|Integer|Long|String|StringBuilder|Arrays|List|ArrayList)\\.(\\w+)";
    private static final String ALLOWED = "System.arraycopy|Math.(max|min|abs)|Integer.bitCount";
    private static final Pattern METHOD
            = Pattern.compile("(?m)^( +)(?:\\w+(?:\\[\\])* )*(\\w+)\\([^)]*\\) \\{\n(?s)(.*?)^\\1\\}");
    private static final int DEEPEST = 8;
    private static final Check CHECK = new Check("LanguageTest");

    public static void main(String[] args) throws IOException {
        String source = Files.readString(Path.of(System.getProperty("source", "src/main/java/GravyBoats.java")));
        String code = source.replaceAll("(?s)/\\*.*?\\*/", "").replaceAll("//[^\n]*", "")
                .replaceAll("'(\\\\.|[^'\\\\])'", "0").replaceAll("\"[^\"\n]*\"", "TEXT");
        words(code);
        library(code);
        signs(source);
        classes(code);
        unchangedArrays(code);
        shortMethods(code);
        depth(code);
        CHECK.close();
    }

    private static boolean has(String code, String pattern) {
        return Pattern.compile(pattern).matcher(code).find();
    }

    private static void words(String code) {
        for (String word : NOT_THERE) {
            CHECK.due("no " + word, has(code, word.matches("\\w+") ? "\\b" + word + "\\b" : word), false);
        }
        CHECK.due("texts are not joined by +", has(code, "TEXT\\s*\\+|\\+\\s*TEXT"), false);
    }

    private static void library(String code) {
        Matcher library = Pattern.compile(LIBRARY).matcher(code);
        while (library.find()) {
            CHECK.due("library: " + library.group(), library.group().matches(ALLOWED), true);
        }
    }

    private static void signs(String source) {
        for (int i = 0; i < source.length(); i++) {
            CHECK.due("a sign at " + i, source.charAt(i) < 128, true);
        }
    }

    private static void classes(String code) {
        CHECK.due("twelve classes at most", code.split("\\bclass\\b").length - 1 <= 12, true);
    }

    private static void unchangedArrays(String code) {
        Matcher arrays = Pattern.compile("static final \\w+\\[\\] (\\w+) = \\{").matcher(code);
        while (arrays.find()) {
            String name = arrays.group(1);
            boolean changed = has(code, "\\b" + name + "\\[[^\\]]*\\] *([-+*/|&^]|<<|>>|>>>)?=[^=]")
                    || has(code, "\\b" + name + "\\[[^\\]]*\\] *(\\+\\+|--)") || has(code, "[(,=] *" + name + "\\b(?!\\[|\\.length)");
            CHECK.due(name + " is only looked at", changed, false);
        }
    }

    private static void shortMethods(String code) {
        Matcher methods = METHOD.matcher(code);
        int count = 0;
        while (methods.find()) {
            CHECK.due("short: " + methods.group(2), methods.group(3).split("\n").length <= 60, true);
            count++;
        }
        CHECK.due("methods are found", count > 100, true);
    }

    /** Methods of one name count as one, and a call within a round of calls (recursion) once. */
    private static void depth(String code) {
        Map<String, StringBuilder> bodies = new LinkedHashMap<>();
        Matcher methods = METHOD.matcher(code);
        while (methods.find()) {
            bodies.computeIfAbsent(methods.group(2), name -> new StringBuilder()).append(methods.group(3));
        }
        Map<String, TreeSet<String>> calls = new TreeMap<>();
        for (String name : bodies.keySet()) {
            TreeSet<String> called = new TreeSet<>();
            Matcher call = Pattern.compile("(?<!new )\\b(\\w+)\\(").matcher(bodies.get(name));
            while (call.find()) {
                if (bodies.containsKey(call.group(1))) {
                    called.add(call.group(1));
                }
            }
            calls.put(name, called);
        }
        for (String name : calls.keySet()) {
            String deepest = deepest(name, calls, new TreeSet<>());
            CHECK.due("eight deep at most: " + deepest, deepest.split(" ").length <= DEEPEST, true);
        }
    }

    private static String deepest(String name, Map<String, TreeSet<String>> calls, TreeSet<String> open) {
        String most = "";
        open.add(name);
        for (String called : calls.get(name)) {
            if (!open.contains(called)) {
                String below = deepest(called, calls, open);
                most = below.split(" ").length > most.split(" ").length || most.isEmpty() ? below : most;
            }
        }
        open.remove(name);
        return (name + " " + most).trim();
    }
}
