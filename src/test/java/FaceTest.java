import java.lang.reflect.Field;
import java.lang.reflect.Method;
import java.lang.reflect.Modifier;
import java.nio.file.Files;
import java.nio.file.Path;
import java.util.Arrays;
import java.util.TreeSet;
import java.util.stream.Collectors;

/** The class has the public face that the document prints, and no other visible member (LANGUAGE.md, rule 1). */
public final class FaceTest {
    private FaceTest() {
    }

    public static void main(String[] args) throws Exception {
        Class<?> face = KeywordMatcher.class;
        Check.due("final", Modifier.isFinal(face.getModifiers()) ? 1 : 0, 1);
        Check.due("constructors", face.getDeclaredConstructors().length, 1);
        Check.due("public constructors", face.getConstructors().length, 1);
        TreeSet<String> want = new TreeSet<>();
        boolean inside = false;
        for (String line : Files.readAllLines(Path.of("../shared/DOC.md"))) {
            inside = line.startsWith("public final class") || inside && !line.startsWith("```");
            if (inside && line.startsWith("    public ") && !line.contains("KeywordMatcher()")) {
                want.add(line.trim());
            }
        }
        TreeSet<String> got = new TreeSet<>();
        for (Field field : face.getDeclaredFields()) {
            if (!Modifier.isPrivate(field.getModifiers())) {
                got.add("public static final int " + field.getName() + " = " + field.getInt(null) + ";");
            }
        }
        for (Method method : face.getDeclaredMethods()) {
            if (!Modifier.isPrivate(method.getModifiers())) {
                got.add("public int " + method.getName() + "(" + parameters(method) + ");");
            }
        }
        want = want.stream().map(FaceTest::withoutNames).collect(Collectors.toCollection(TreeSet::new));
        Check.due("lines of the face", want.size(), 7 + 50);
        Check.due("the face is " + got, got.equals(want) ? 1 : 0, 1);
        Check.finish("FaceTest");
    }

    private static String parameters(Method method) {
        return Arrays.stream(method.getParameterTypes()).map(Class::getName).collect(Collectors.joining(", "));
    }

    private static String withoutNames(String line) {
        return line.replaceAll("(int|boolean) \\w+(?=[,)])", "$1");
    }
}
