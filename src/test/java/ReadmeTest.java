import java.io.IOException;
import java.lang.reflect.Method;
import java.lang.reflect.Modifier;
import java.nio.file.Files;
import java.nio.file.Path;
import java.util.TreeSet;
import java.util.regex.Matcher;
import java.util.regex.Pattern;

/** The calls that README.md shows, in its order: each answers what stands behind it, and no method is left out. */
final class ReadmeTest {
    private static final String NEW = "GravyBoats dinner = new GravyBoats();";
    private static final Pattern CALL = Pattern.compile("dinner\\.(\\w+)\\(([^)]*)\\);\\s+// (-?\\d+|true|false)(:.*)?");
    private static final Check CHECK = new Check("ReadmeTest");

    public static void main(String[] args) throws IOException, ReflectiveOperationException {
        TreeSet<String> left = new TreeSet<>();
        for (Method m : GravyBoats.class.getDeclaredMethods()) {
            if (Modifier.isPublic(m.getModifiers())) {
                left.add(m.getName());
            }
        }
        GravyBoats dinner = new GravyBoats();
        boolean java = false;
        for (String line : Files.readAllLines(Path.of(System.getProperty("readme", "README.md")))) {
            Matcher call = CALL.matcher(line);
            if (line.startsWith("```")) {
                java = line.equals("```java");
            } else if (java && line.equals(NEW)) {
                dinner = new GravyBoats();
            } else if (java && call.matches()) {
                CHECK.due(line, answer(dinner, call.group(1), call.group(2)), worth(call.group(3)));
                left.remove(call.group(1));
            } else if (java) {
                CHECK.due("a call with its answer: " + line, false, true);
            }
        }
        CHECK.due("methods that are not shown: " + left, left.size(), 0);
        CHECK.close();
    }

    private static long answer(GravyBoats dinner, String name, String told) throws ReflectiveOperationException {
        String[] words = told.isEmpty() ? new String[0] : told.split(", ");
        for (Method m : GravyBoats.class.getDeclaredMethods()) {
            if (m.getName().equals(name) && m.getParameterCount() == words.length) {
                Object[] values = new Object[words.length];
                for (int i = 0; i < words.length; i++) {
                    boolean yesOrNo = m.getParameterTypes()[i] == boolean.class;
                    values[i] = yesOrNo ? (Object) Boolean.valueOf(words[i]) : (Object) (int) (long) Long.decode(words[i]);
                }
                return worth(String.valueOf(m.invoke(dinner, values)));
            }
        }
        throw new NoSuchMethodException(name + " with " + words.length);
    }

    private static long worth(String answer) {
        return answer.equals("true") ? 1 : answer.equals("false") ? 0 : Long.parseLong(answer);
    }
}
