import java.nio.file.Files;
import java.nio.file.Path;
import java.util.HashSet;
import java.util.List;
import java.util.Set;
import java.util.regex.Matcher;
import java.util.regex.Pattern;

/** Those rules of LANGUAGE.md that the source's words show. */
public final class LanguageTest {
    private static final Path SOURCE = Path.of("src/main/java/KeywordMatcher.java");
    private static final String[] FORBIDDEN = {"throw", "throws", "try", "catch", "synchronized", "assert", "package",
        "transient", "volatile", "native", "protected", "->", "::", "\\w+Exact", "equals", "hashCode", "toString",
        "System\\.(?!arraycopy)\\w+", "Random", "Thread", "Object"};

    private LanguageTest() {
    }

    public static void main(String[] args) throws Exception {
        String code = Files.readString(SOURCE).replaceAll("(?s)/\\*.*?\\*/", "").replaceAll("//.*", "");
        for (String word : FORBIDDEN) {
            boolean sign = word.equals("->") || word.equals("::");
            Matcher found = Pattern.compile(sign ? word : "\\b" + word + "\\b").matcher(code);
            Check.due("'" + word + "' stands in the source", found.find() ? 1 : 0, 0);
        }
        Matcher imports = Pattern.compile("import ([\\w.]+);").matcher(code);
        while (imports.find()) {
            Check.due("import " + imports.group(1), imports.group(1).equals("java.util.Arrays") ? 1 : 0, 1);
        }
        Check.due("too many classes", code.split("\\bclass\\b").length - 1 > 12 ? 1 : 0, 0);
        Check.due("a static block", Pattern.compile("static\\s*\\{").matcher(code).find() ? 1 : 0, 0);
        checkNames(code);
        checkLengths();
        Check.finish("LanguageTest");
    }

    /** No method that is not public bears the name of a public one (rule 1). */
    private static void checkNames(String code) {
        Set<String> shown = new HashSet<>();
        Matcher open = Pattern.compile("public int (\\w+)\\(").matcher(code);
        while (open.find()) {
            shown.add(open.group(1));
        }
        Check.due("public methods", shown.size(), 50);
        Matcher hidden = Pattern.compile("(?m)^ +(?!public|return)(?:private |static )*[\\w\\[\\]]+ (\\w+)\\(").matcher(code);
        while (hidden.find()) {
            Check.due("the name of a public method: " + hidden.group(1), shown.contains(hidden.group(1)) ? 1 : 0, 0);
        }
    }

    /** A method begins at a line that ends with ") {" behind four or eight blanks, and ends at its closing brace. */
    private static void checkLengths() throws Exception {
        List<String> lines = Files.readAllLines(SOURCE);
        Pattern head = Pattern.compile("( {4}| {8})\\w[^;=]*\\) \\{");
        for (int i = 0; i < lines.size(); i++) {
            Matcher method = head.matcher(lines.get(i));
            if (method.matches() && !lines.get(i).matches(" +(if|for|while|switch)\\b.*")) {
                int end = i;
                while (!lines.get(end).equals(method.group(1) + "}")) {
                    end++;
                }
                Check.due("too long: " + lines.get(i).trim(), end - i > 60 ? 1 : 0, 0);
                Check.due("too many parameters: " + lines.get(i).trim(), lines.get(i).split(",").length > 7 ? 1 : 0, 0);
            }
        }
    }
}
