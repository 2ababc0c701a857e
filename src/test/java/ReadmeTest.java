import java.lang.reflect.Field;
import java.lang.reflect.Method;
import java.lang.reflect.Modifier;
import java.nio.file.Files;
import java.nio.file.Path;
import java.util.List;
import java.util.regex.Matcher;
import java.util.regex.Pattern;

/** README.md's example answers what stands behind its calls, and its tables name every method and constant once. */
public final class ReadmeTest {
    private static final Pattern CALL = Pattern.compile("m\\.(\\w+)\\(([^)]*)\\);\\s+// (-?\\d+).*");

    private ReadmeTest() {
    }

    public static void main(String[] args) throws Exception {
        List<String> page = Files.readAllLines(Path.of("README.md"));
        runExample(page);
        for (Method method : KeywordMatcher.class.getMethods()) {
            if (method.getDeclaringClass() == KeywordMatcher.class) {
                Check.due("rows with " + method.getName(), rowsWith(page, "`" + method.getName() + "`"), 1);
            }
        }
        for (Field field : KeywordMatcher.class.getFields()) {
            String cells = "| `" + field.getName() + "` | " + field.getInt(null) + " |";
            Check.due("rows with " + cells, rowsWith(page, cells), 1);
        }
        Check.finish("ReadmeTest");
    }

    private static long rowsWith(List<String> page, String words) {
        return page.stream().filter(line -> line.startsWith("|") && line.contains(words)).count();
    }

    private static void runExample(List<String> page) throws Exception {
        int begin = page.indexOf("```java");
        List<String> calls = page.subList(begin + 2, begin + page.subList(begin, page.size()).indexOf("```"));
        KeywordMatcher m = new KeywordMatcher();
        for (String line : calls) {
            Matcher call = CALL.matcher(line);
            Check.due("can be read: " + line, call.matches() ? 1 : 0, 1);
            if (call.matches()) {
                Check.due(line, answer(m, call.group(1), call.group(2)), Integer.parseInt(call.group(3)));
            }
        }
        Check.due("calls in the example", calls.size(), 19);
    }

    private static int answer(KeywordMatcher m, String name, String list) throws Exception {
        String[] words = list.isEmpty() ? new String[0] : list.split(", ");
        Object[] arguments = new Object[words.length];
        for (int i = 0; i < words.length; i++) {
            arguments[i] = Integer.decode(words[i]);
        }
        for (Method method : KeywordMatcher.class.getDeclaredMethods()) {
            if (method.getName().equals(name) && Modifier.isPublic(method.getModifiers())) {
                return (Integer) method.invoke(m, arguments);
            }
        }
        return Integer.MIN_VALUE;
    }
}
