import java.io.IOException;
import java.lang.reflect.Executable;
import java.lang.reflect.Field;
import java.lang.reflect.Method;
import java.lang.reflect.Modifier;
import java.nio.file.Files;
import java.nio.file.Path;
import java.util.ArrayList;
import java.util.Arrays;
import java.util.List;
import java.util.Set;
import java.util.TreeSet;
import java.util.regex.Matcher;
import java.util.regex.Pattern;

/** The rules of LANGUAGE.md that can be read off the source and its classes; the others are held by reading. */
final class LanguageTest {
    private static final Check CHECK = new Check();
    private static final Path SOURCE = Path.of("src/main/java/MeshNames.java");
    /** Rules 2, 4 and 6. Math and Integer have functions that are not allowed, so what is used of them is told. */
    private static final String[] REFUSED = {
        "\\b(throw|throws|try|catch|synchronized|assert|import|package|protected|native|volatile|transient)\\b",
        "->", "::", "\\b(hashCode|toString|equals)\\b", "\\bnew\\s+\\w+\\s*\\([^)]*\\)\\s*\\{",
        "\\b(System|Thread|Object|Random|float|double)\\b", "\\bMath\\.(?!(abs|min|max|floorMod)\\()", "\\bInteger\\.(?!bitCount\\()"
    };

    public static void main(String[] args) throws IOException {
        String code = withoutComments(Files.readString(SOURCE));
        for (String refused : REFUSED) {
            Matcher found = Pattern.compile(refused).matcher(code);
            CHECK.holds("2, 4, 6 the class does without " + refused, !found.find());
        }
        CHECK.holds("4 signs 1 to 127", code.chars().allMatch(sign -> sign > 0 && sign < 128));
        List<Class<?>> classes = new ArrayList<>(Arrays.asList(MeshNames.class.getDeclaredClasses()));
        classes.forEach(LanguageTest::isFitInside);
        classes.add(MeshNames.class);
        CHECK.holds("11 at most twelve classes", classes.size() <= 12);
        classes.forEach(LanguageTest::isFit);
        methodsAreShort(code);
        CHECK.end();
    }

    /** Line ends stay, so that methods keep their lengths; the class has no texts that could hold a comment's sign. */
    private static String withoutComments(String source) {
        CHECK.holds("the class has no texts", !source.contains("\""));
        Matcher comment = Pattern.compile("/\\*.*?\\*/|//[^\\n]*", Pattern.DOTALL).matcher(source);
        return comment.replaceAll(found -> found.group().replaceAll("[^\\n]", ""));
    }

    private static void isFitInside(Class<?> inside) {
        CHECK.holds("1, 2 static: " + inside, Modifier.isStatic(inside.getModifiers()));
        CHECK.holds("1 not public, not protected: " + inside,
            !Modifier.isPublic(inside.getModifiers()) && !Modifier.isProtected(inside.getModifiers()));
        CHECK.due("11 classes inside " + inside, inside.getDeclaredClasses().length, 0);
        Set<String> face = new TreeSet<>();
        for (Method method : MeshNames.class.getMethods()) {
            face.add(method.getName());
        }
        for (Method method : inside.getDeclaredMethods()) {
            CHECK.holds("1 a name of its own: " + method, !face.contains(method.getName()));
        }
    }

    private static void isFit(Class<?> one) {
        int fields = 0;
        for (Field field : one.getDeclaredFields()) {
            boolean isStatic = Modifier.isStatic(field.getModifiers());
            fields += isStatic ? 0 : 1;
            CHECK.holds("5 static fields are constants: " + field,
                !isStatic || Modifier.isFinal(field.getModifiers()) && field.getType() == int.class);
        }
        CHECK.holds("11 at most twenty fields: " + one, fields <= 20);
        List<Executable> calls = new ArrayList<>(Arrays.asList(one.getDeclaredMethods()));
        calls.addAll(Arrays.asList(one.getDeclaredConstructors()));
        for (Executable call : calls) {
            CHECK.holds("11 at most seven parameters: " + call, call.getParameterCount() <= 7);
        }
    }

    /** A method begins with a line that ends in ") {" and ends with the brace in the same column. */
    private static void methodsAreShort(String code) {
        String[] lines = code.split("\n");
        int methods = 0;
        for (int i = 0; i < lines.length; i++) {
            if (lines[i].matches(" {4}( {4})?(\\w[\\w\\[\\]]* )*\\w+\\([^()]*\\) \\{")) {
                String end = lines[i].replaceAll("\\S.*", "}");
                int last = i;
                while (last < lines.length - 1 && !lines[last].equals(end)) {
                    last++;
                }
                CHECK.holds("11 at most sixty lines: " + lines[i].trim(), last - i < 60);
                methods++;
            }
        }
        CHECK.holds("methods were found", methods > 50);
    }
}
