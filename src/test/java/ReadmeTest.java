import java.io.IOException;
import java.lang.reflect.InvocationTargetException;
import java.lang.reflect.Method;
import java.lang.reflect.Modifier;
import java.nio.file.Files;
import java.nio.file.Path;
import java.util.Arrays;
import java.util.Set;
import java.util.TreeSet;
import java.util.regex.Matcher;
import java.util.regex.Pattern;

/** The run in README.md: each call answers what stands behind it, and no call of the face is left out. */
public final class ReadmeTest {
    private static final Pattern BLOCK = Pattern.compile("(?s)```java\n(.*?)```");
    private static final Pattern CALL = Pattern.compile("house\\.(\\w+)\\(([^)]*)\\); +// (-?\\d+|NONE)(: .*)?");
    private static final String NEW = "RelayHouse house = new RelayHouse();";

    public static void main(String[] args) throws IOException, ReflectiveOperationException {
        String readme = Files.readString(Path.of("README.md"));
        Set<String> shown = new TreeSet<>();
        RelayHouse house = null;
        Matcher block = BLOCK.matcher(readme);
        while (block.find()) {
            for (String line : block.group(1).split("\n")) {
                if (line.equals(NEW)) {
                    house = new RelayHouse();
                } else if (!line.isBlank()) {
                    shown.add(make(house, line));
                }
            }
        }
        for (Method one : faceOf()) {
            Checks.due(one.getName() + "() is shown", shown.contains(one.getName()) ? 1 : 0, 1);
            Checks.due(one.getName() + "() is told", readme.contains("| `" + one.getName() + "(") ? 1 : 0, 1);
        }
        try (var files = Files.newDirectoryStream(Path.of("src/test/java"), "*{Test,Edges}.java")) {
            for (Path file : files) {
                String name = file.getFileName().toString().replace(".java", "");
                Checks.due(name + " is told", name.equals("Edges") || readme.contains("`" + name + "`") ? 1 : 0, 1);
            }
        }
        Checks.close();
    }

    private static Method[] faceOf() {
        return Arrays.stream(RelayHouse.class.getDeclaredMethods())
                .filter(m -> Modifier.isPublic(m.getModifiers())).toArray(Method[]::new);
    }

    /** Makes the call of a line: its name. */
    private static String make(RelayHouse house, String line) throws ReflectiveOperationException {
        Matcher call = CALL.matcher(line);
        Checks.due("a call with its answer: " + line, call.matches() && house != null ? 1 : 0, 1);
        if (!call.matches() || house == null) {
            return "";
        }
        int due = call.group(3).equals("NONE") ? RelayHouse.NONE : Integer.parseInt(call.group(3));
        Checks.due("README.md: " + line, answer(house, call.group(1), call.group(2)), due);
        return call.group(1);
    }

    private static int answer(RelayHouse house, String name, String list)
            throws IllegalAccessException, InvocationTargetException, NoSuchMethodException {
        String[] told = list.isEmpty() ? new String[0] : list.split(", ");
        for (Method one : faceOf()) {
            Class<?>[] types = one.getParameterTypes();
            if (one.getName().equals(name) && types.length == told.length) {
                Object[] values = new Object[told.length];
                for (int i = 0; i < told.length; i++) {
                    values[i] = types[i] == long.class ? (Object) Long.decode(told[i]) : (Object) Integer.decode(told[i]);
                }
                return (int) one.invoke(house, values);
            }
        }
        throw new NoSuchMethodException(name + "(" + list + ")");
    }
}
