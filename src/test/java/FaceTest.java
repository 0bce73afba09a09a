import java.lang.reflect.Constructor;
import java.lang.reflect.Field;
import java.lang.reflect.Method;
import java.lang.reflect.Modifier;
import java.util.Set;
import java.util.TreeSet;

/** The public face: the document's constants, constructor and methods, and no other member that can be seen. */
final class FaceTest {
    private static final Check CHECK = new Check();
    private static final String[] METHODS = {
        "up 2", "down 1", "link 3", "of 2", "path 2", "over 2", "owner 2", "route 3", "spare 2",
        "worst 1", "torn 2", "bridges 0", "changed 1", "image 1", "restore 1", "count 1"
    };
    private static final String[] CONSTANTS = {"UNKNOWN", "OUTSIDE", "STATE", "FULL", "NO", "NONE"};

    public static void main(String[] args) throws ReflectiveOperationException {
        constants();
        methods();
        constructors();
        CHECK.end();
    }

    private static void constants() throws ReflectiveOperationException {
        for (int i = 0; i < CONSTANTS.length; i++) {
            CHECK.due(CONSTANTS[i], MeshNames.class.getField(CONSTANTS[i]).getInt(null), -1 - i);
        }
        for (Field field : MeshNames.class.getDeclaredFields()) {
            boolean isConstant = Set.of(CONSTANTS).contains(field.getName());
            CHECK.holds(field + " is private or a constant of the document",
                isConstant || Modifier.isPrivate(field.getModifiers()));
        }
    }

    private static void methods() {
        Set<String> seen = new TreeSet<>();
        Set<String> hidden = new TreeSet<>();
        for (Method method : MeshNames.class.getDeclaredMethods()) {
            if (Modifier.isPrivate(method.getModifiers())) {
                hidden.add(method.getName());
                continue;
            }
            seen.add(method.getName() + " " + method.getParameterCount());
            CHECK.holds(method + " is public", Modifier.isPublic(method.getModifiers()));
            CHECK.holds(method + " answers an int", method.getReturnType() == int.class);
            for (Class<?> type : method.getParameterTypes()) {
                CHECK.holds(method + " takes ints", type == int.class);
            }
        }
        CHECK.holds("the methods are the document's: " + seen, seen.equals(new TreeSet<>(Set.of(METHODS))));
        for (String method : METHODS) {
            String name = method.substring(0, method.indexOf(' '));
            CHECK.holds("no private method is called " + name, !hidden.contains(name));
        }
    }

    private static void constructors() {
        Constructor<?>[] found = MeshNames.class.getDeclaredConstructors();
        CHECK.due("how many constructors", found.length, 1);
        CHECK.holds("it is public and takes nothing",
            found[0].getParameterCount() == 0 && Modifier.isPublic(found[0].getModifiers()));
        CHECK.holds("the class is public and final", Modifier.isPublic(MeshNames.class.getModifiers())
            && Modifier.isFinal(MeshNames.class.getModifiers()));
    }
}
