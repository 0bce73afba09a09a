import java.io.IOException;
import java.lang.reflect.Method;
import java.lang.reflect.Modifier;
import java.nio.file.Files;
import java.nio.file.Path;
import java.util.List;
import java.util.regex.Matcher;
import java.util.regex.Pattern;

/** README.md: its example is run line by line, and its table has each call of the face. */
final class ReadmeTest {
    private static final Check CHECK = new Check();
    private static final Pattern CALL = Pattern.compile("mesh\\.(\\w+)\\(([^)]*)\\);\\s*// (-?\\d+)\\b.*");

    public static void main(String[] args) throws IOException, ReflectiveOperationException {
        List<String> lines = Files.readAllLines(Path.of("README.md"));
        example(lines);
        table(lines);
        CHECK.end();
    }

    private static void example(List<String> lines) throws ReflectiveOperationException {
        MeshNames mesh = new MeshNames();
        int calls = 0;
        for (String line : lines) {
            if (line.startsWith("mesh.")) {
                Matcher call = CALL.matcher(line);
                boolean isCall = call.matches();
                CHECK.holds("a call with its answer: " + line, isCall);
                if (isCall) {
                    CHECK.due(line, answer(mesh, call.group(1), call.group(2)), Integer.parseInt(call.group(3)));
                    calls++;
                }
            }
        }
        CHECK.holds("the example has calls", calls > 0);
    }

    private static int answer(MeshNames mesh, String name, String numbers) throws ReflectiveOperationException {
        String[] told = numbers.isEmpty() ? new String[0] : numbers.split(", ");
        Class<?>[] types = new Class<?>[told.length];
        Object[] values = new Object[told.length];
        for (int i = 0; i < told.length; i++) {
            types[i] = int.class;
            values[i] = Integer.valueOf(told[i]);
        }
        return (Integer) MeshNames.class.getMethod(name, types).invoke(mesh, values);
    }

    private static void table(List<String> lines) {
        for (Method method : MeshNames.class.getDeclaredMethods()) {
            if (Modifier.isPublic(method.getModifiers())) {
                String row = "\\| \\d+ \\| `" + method.getName() + "\\(.*";
                CHECK.holds("the table has " + method.getName(), lines.stream().anyMatch(line -> line.matches(row)));
            }
        }
    }
}
