import java.io.IOException;
import java.lang.reflect.Constructor;
import java.lang.reflect.Field;
import java.lang.reflect.Method;
import java.lang.reflect.Modifier;
import java.nio.charset.StandardCharsets;
import java.nio.file.Files;
import java.nio.file.Path;
import java.util.Arrays;
import java.util.Set;
import java.util.TreeSet;

/** The face is that of the document; the source, named as the argument, keeps to LANGUAGE.md. */
public final class FaceTest {
    private static final String[] METHODS = {
        "player 0", "size 3", "task 4", "contract 2", "put 3", "home 2", "flip 2", "buy 2", "pass 1",
        "playerOf 2", "workerOf 3", "taskOf 2", "on 2", "contractOf 2", "next 1", "would 3", "best 3",
        "earns 3", "busy 2", "count 1", "undo 0", "type 1", "clearText 0", "fault 1", "play 0"};
    private static final String[] CONSTANTS = {
        "INVALID_ARGUMENT", "LIMIT_REACHED", "NOT_FOUND", "NOT_POSSIBLE"};
    private static final String[] FORBIDDEN = {
        "import ", "->", "::", "Exact(", "Float.", "Double.", "Arrays.sort", "finally", "synchronized",
        "assert ", "try ", "catch", "throw", "new Object", "ArrayList", "String ", "\" +", "+ \"",
        "while (true)", "for (;;)", "System.currentTimeMillis", "System.nanoTime", "Random", "strictfp"};

    private FaceTest() {
    }

    public static void main(String[] args) throws IOException {
        constants();
        methods();
        fields();
        oneConstructor();
        nestedClasses();
        language(args.length > 0 ? args[0] : "src/main/java/SandWorkers.java");
        Due.end();
    }

    private static void constants() {
        Due.is("INVALID_ARGUMENT", SandWorkers.INVALID_ARGUMENT, -1000001);
        Due.is("NOT_POSSIBLE", SandWorkers.NOT_POSSIBLE, -1000002);
        Due.is("LIMIT_REACHED", SandWorkers.LIMIT_REACHED, -1000003);
        Due.is("NOT_FOUND", SandWorkers.NOT_FOUND, -1000004);
    }

    private static void methods() {
        Set<String> open = new TreeSet<>();
        Set<String> hidden = new TreeSet<>();
        for (Method method : SandWorkers.class.getDeclaredMethods()) {
            if (Modifier.isPublic(method.getModifiers())) {
                open.add(method.getName() + " " + method.getParameterCount());
                Due.isTrue(method + " answers an int", method.getReturnType() == int.class);
                for (Class<?> parameter : method.getParameterTypes()) {
                    Due.isTrue(method + " takes ints", parameter == int.class);
                }
            } else {
                hidden.add(method.getName());
                Due.isTrue(method + " is private", Modifier.isPrivate(method.getModifiers()));
            }
        }
        for (Class<?> inner : SandWorkers.class.getDeclaredClasses()) {
            for (Method method : inner.getDeclaredMethods()) {
                hidden.add(method.getName());
            }
        }
        Due.isTrue("the methods are those of the document: " + open,
                open.equals(new TreeSet<>(Arrays.asList(METHODS))));
        for (String told : METHODS) {
            String name = told.substring(0, told.indexOf(' '));
            Due.isTrue("no other method is named " + name, !hidden.contains(name));
        }
    }

    private static void fields() {
        Set<String> open = new TreeSet<>();
        for (Field field : SandWorkers.class.getDeclaredFields()) {
            int modifiers = field.getModifiers();
            if (Modifier.isPublic(modifiers)) {
                open.add(field.getName());
            } else {
                Due.isTrue(field + " is private", Modifier.isPrivate(modifiers));
            }
            Due.isTrue(field + " is final", Modifier.isFinal(modifiers));
        }
        Due.isTrue("the constants are those of the document: " + open,
                open.equals(new TreeSet<>(Arrays.asList(CONSTANTS))));
    }

    private static void oneConstructor() {
        Constructor<?>[] all = SandWorkers.class.getDeclaredConstructors();
        Due.is("constructors", all.length, 1);
        Due.isTrue("it is public", Modifier.isPublic(all[0].getModifiers()));
        Due.is("it takes nothing", all[0].getParameterCount(), 0);
        Due.isTrue("the class is final", Modifier.isFinal(SandWorkers.class.getModifiers()));
    }

    private static void nestedClasses() {
        Class<?>[] inner = SandWorkers.class.getDeclaredClasses();
        Due.isTrue("at most some twelve classes", inner.length <= 11);
        for (Class<?> one : inner) {
            Due.isTrue(one + " is static", Modifier.isStatic(one.getModifiers()));
            Due.isTrue(one + " is private", Modifier.isPrivate(one.getModifiers()));
            int fields = 0;
            for (Field field : one.getDeclaredFields()) {
                fields += Modifier.isStatic(field.getModifiers()) ? 0 : 1;
            }
            Due.isTrue(one + " has few fields", fields <= 20);
        }
    }

    private static void language(String source) throws IOException {
        String text = Files.readString(Path.of(source), StandardCharsets.ISO_8859_1);
        for (String forbidden : FORBIDDEN) {
            Due.isTrue("the source is free of " + forbidden, !text.contains(forbidden));
        }
        for (int i = 0; i < text.length(); i++) {
            if (text.charAt(i) > 126) {
                Due.is("sign " + i + " of the source", text.charAt(i), '?');
            }
        }
    }
}
