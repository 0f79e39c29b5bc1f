import java.io.IOException;
import java.lang.reflect.Constructor;
import java.lang.reflect.Field;
import java.lang.reflect.Method;
import java.lang.reflect.Modifier;
import java.nio.file.Files;
import java.nio.file.Path;
import java.util.Arrays;
import java.util.Set;
import java.util.TreeSet;

/** The class shows the document's face and nothing else, and keeps to the rules of LANGUAGE.md that a look at it can tell. */
public final class FaceTest {
    private static final String SOURCE = "src/main/java/BlockDistance.java";
    private static final String[] FACE = {
        "int load() IllegalArgumentException",
        "int insert(int,int,int) IndexOutOfBoundsException IllegalArgumentException IllegalStateException",
        "int remove(int,int) IndexOutOfBoundsException",
        "int replace(int,int,int) IndexOutOfBoundsException IllegalArgumentException",
        "int exchange()",
        "int setAlphabet(int) IllegalArgumentException IllegalStateException",
        "int length(int) IndexOutOfBoundsException",
        "int letter(int,int) IndexOutOfBoundsException",
        "int distance()",
        "int prefix(int,int) IndexOutOfBoundsException",
        "int steps()",
        "int step(int) IndexOutOfBoundsException",
        "int count(int) IndexOutOfBoundsException",
        "int within(int) IllegalArgumentException",
        "int band(int) IllegalArgumentException",
        "double similarity()",
        "int setBlock(int) IllegalArgumentException",
        "int measure()",
        "int hits()",
        "int misses()",
        "int singleSteps()",
        "int across(int,int) IndexOutOfBoundsException",
        "int foundDistance()",
        "int foundEnd()",
        "int ifReplaced(int,int,int) IndexOutOfBoundsException IllegalArgumentException",
        "int bestReplacement(int) IndexOutOfBoundsException",
        "int missesToCome()",
        "int append(int) IllegalArgumentException IllegalStateException",
        "int clearBuffer()",
        "int firstError()",
        "int undo() IllegalStateException",
        "int savedStates()",
        "long digest()",
    };
    private static final String[] FORBIDDEN = {
        "import ", "package ", "->", "::", "catch", "finally", "synchronized", "assert ", "Exact(",
        "System.out", "System.err", "nanoTime", "currentTimeMillis", "Random", "static {",
    };

    private final Checks checks = new Checks("FaceTest");
    private final Set<String> publicNames = new TreeSet<>();

    private static String lineOf(Method method) {
        StringBuilder line = new StringBuilder();
        line.append(method.getReturnType().getSimpleName()).append(' ').append(method.getName()).append('(');
        line.append(String.join(",", Arrays.stream(method.getParameterTypes()).map(Class::getSimpleName).toList()));
        line.append(')');
        for (Class<?> kind : method.getExceptionTypes()) {
            line.append(' ').append(kind.getSimpleName());
        }
        return line.toString();
    }

    private void methods() {
        Set<String> shown = new TreeSet<>();
        for (Method method : BlockDistance.class.getDeclaredMethods()) {
            if (!Modifier.isPrivate(method.getModifiers())) {
                shown.add(lineOf(method));
                publicNames.add(method.getName());
                checks.due(method.getName() + " is public and of the object", Modifier.PUBLIC, () -> method.getModifiers());
            }
        }
        checks.due("the public methods", new TreeSet<>(Arrays.asList(FACE)), () -> shown);
    }

    private void fields() {
        for (Field field : BlockDistance.class.getDeclaredFields()) {
            int modifiers = field.getModifiers();
            boolean isNone = field.getName().equals("NONE");
            checks.due(field.getName() + " is private", !isNone, () -> Modifier.isPrivate(modifiers));
            if (Modifier.isStatic(modifiers)) {
                checks.due(field.getName() + " is final", true, () -> Modifier.isFinal(modifiers));
            }
        }
    }

    private void constructors() {
        Constructor<?>[] all = BlockDistance.class.getDeclaredConstructors();
        checks.due("constructors", 1, () -> all.length);
        checks.due("the constructor is public", "public BlockDistance()", () -> all[0].toString());
        checks.due("the class", "public final", () -> Modifier.toString(BlockDistance.class.getModifiers()));
        checks.due("the class above", Object.class, () -> BlockDistance.class.getSuperclass());
    }

    private void insideClasses() {
        Class<?>[] inside = BlockDistance.class.getDeclaredClasses();
        checks.due("some twelve classes", true, () -> inside.length <= 12);
        for (Class<?> one : inside) {
            checks.due(one.getName() + " is static", true, () -> Modifier.isStatic(one.getModifiers()));
            checks.due(one.getName() + " is not public", false, () -> Modifier.isPublic(one.getModifiers()));
            for (Method method : one.getDeclaredMethods()) {
                checks.due(one.getName() + "." + method.getName() + " bears a name of its own", false,
                        () -> publicNames.contains(method.getName()));
            }
            for (Field field : one.getDeclaredFields()) {
                int modifiers = field.getModifiers();
                checks.due(one.getName() + "." + field.getName() + ": no static state", true,
                        () -> !Modifier.isStatic(modifiers) || Modifier.isFinal(modifiers));
            }
        }
        for (Method method : BlockDistance.class.getDeclaredMethods()) {
            if (Modifier.isPrivate(method.getModifiers())) {
                checks.due(method.getName() + " bears a name of its own", false,
                        () -> publicNames.contains(method.getName()));
            }
        }
    }

    private void source() throws IOException {
        String text = Files.readString(Path.of(SOURCE));
        for (String word : FORBIDDEN) {
            checks.due("the source has '" + word + "'", false, () -> text.contains(word));
        }
        checks.due("the source has another sign", true, () -> text.chars().allMatch(c -> c < 128));
    }

    public static void main(String[] args) throws IOException {
        FaceTest test = new FaceTest();
        test.methods();
        test.fields();
        test.constructors();
        test.insideClasses();
        test.source();
        test.checks.end();
    }
}
