import java.io.IOException;
import java.lang.reflect.Field;
import java.lang.reflect.Method;
import java.lang.reflect.Modifier;
import java.nio.charset.StandardCharsets;
import java.nio.file.Files;
import java.nio.file.Path;
import java.util.HashMap;
import java.util.Map;
import java.util.regex.Matcher;
import java.util.regex.Pattern;

/** README.md tells what holds: its game answers as it says, each call and constant is named. */
public final class ReadmeTest {
    private static final Pattern CALL =
            Pattern.compile("(?:int (\\w+) = )?game\\.(\\w+)\\(([^)]*)\\); +// (\\w+|-\\d+)(:.*)?");
    private static final Pattern ORDER = Pattern.compile("\\| `([a-z0-9,]+;)` \\| `(\\w+)\\(([^)]*)\\)` \\|");

    private ReadmeTest() {
    }

    public static void main(String[] args) throws IOException, ReflectiveOperationException {
        String page = Files.readString(Path.of("README.md"), StandardCharsets.US_ASCII);
        itsGameAnswersAsTold(page);
        eachOrderIsTheCallBesideIt(page);
        eachCallIsNamed(page);
        eachConstantIsNamed(page);
        Due.end();
    }

    private static void itsGameAnswersAsTold(String page) throws ReflectiveOperationException {
        SandWorkers game = new SandWorkers();
        Map<String, Integer> names = new HashMap<>();
        int calls = 0;
        for (String line : page.split("\n")) {
            Matcher m = CALL.matcher(line);
            if (m.matches()) {
                int answer = answer(game, m.group(2), m.group(3), names);
                Due.is("README " + m.group(2) + "(" + m.group(3) + ")", answer, value(m.group(4), names));
                if (m.group(1) != null) {
                    names.put(m.group(1), answer);
                }
                calls++;
            } else {
                Due.isTrue("README a line of its game is read: " + line, !line.contains("game."));
            }
        }
        Due.isTrue("README has a game", calls > 0);
    }

    private static int answer(SandWorkers game, String name, String told, Map<String, Integer> names)
            throws ReflectiveOperationException {
        String[] parts = told.isEmpty() ? new String[0] : told.split(", ");
        Object[] values = new Object[parts.length];
        Class<?>[] types = new Class<?>[parts.length];
        for (int i = 0; i < parts.length; i++) {
            values[i] = value(parts[i], names);
            types[i] = int.class;
        }
        return (Integer) SandWorkers.class.getMethod(name, types).invoke(game, values);
    }

    /** A number, a sign between quotes, a name that the game gave, or a constant of the class. */
    private static int value(String told, Map<String, Integer> names) throws ReflectiveOperationException {
        if (told.matches("-?\\d+")) {
            return Integer.parseInt(told);
        }
        if (told.startsWith("'")) {
            return told.charAt(1);
        }
        Integer named = names.get(told);
        return named != null ? named : SandWorkers.class.getField(told).getInt(null);
    }

    private static void eachOrderIsTheCallBesideIt(String page) throws ReflectiveOperationException {
        Matcher m = ORDER.matcher(page);
        int orders = 0;
        while (m.find()) {
            SandWorkers played = ready();
            Due.type(played, m.group(1));
            Due.is("README order " + m.group(1), played.play(), 1);
            played.clearText();
            SandWorkers called = ready();
            Due.isTrue("README call of " + m.group(1), answer(called, m.group(2), m.group(3), Map.of()) >= 0);
            Due.alike("README " + m.group(1), played, called);
            orders++;
        }
        Due.is("README orders", orders, 6);
    }

    /** Where each order of the page can be done. */
    private static SandWorkers ready() {
        SandWorkers x = Due.players(1);
        for (int i = 0; i < 3; i++) {
            x.task(1, 0, 0, 0);
        }
        for (int i = 0; i < 4; i++) {
            x.contract(0, 1 + i);
        }
        x.put(0, 1, 0);
        x.pass(60);
        return x;
    }

    private static void eachCallIsNamed(String page) {
        for (Method method : SandWorkers.class.getDeclaredMethods()) {
            if (Modifier.isPublic(method.getModifiers())) {
                String more = ", \\w+".repeat(Math.max(0, method.getParameterCount() - 1));
                String arguments = method.getParameterCount() == 0 ? "" : "\\w+" + more;
                Pattern row = Pattern.compile("\\| `" + method.getName() + "\\(" + arguments + "\\)` \\|");
                Due.isTrue("README tells of " + method.getName(), row.matcher(page).find());
            }
        }
    }

    private static void eachConstantIsNamed(String page) throws ReflectiveOperationException {
        for (Field field : SandWorkers.class.getFields()) {
            String row = "| `" + field.getName() + "` | " + field.getInt(null) + " |";
            Due.isTrue("README tells of " + field.getName(), page.contains(row));
        }
    }
}
